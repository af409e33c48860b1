section WS
abbrev ws_F : List Cond := flatC (Jvm.Cond.and given_1 narrow_1)
variable {s : State} {b : Nat}
theorem ws_at (hg : (Jvm.Cond.and given_1 narrow_1).before #[Value.ref b] s = true) {i : Nat} {w : Cond} (h : ws_F[i]? = some w) : w.before #[Value.ref b] s = true := flat_of_before _ hg w (List.mem_of_getElem? h)
abbrev ws_A (s : State) : Nat → Prop := fun q => s.heap.size ≤ q
theorem ws_hA : ∀ a : Nat, a < s.heap.size → ¬ ws_A s a := fun a h q => Nat.not_le.mpr h q
set_option maxRecDepth 100000 in
set_option maxHeartbeats 4000000 in
theorem ws_f0 (hts : ∀ w ∈ lw_tbl, w.before #[Value.ref b] s = true) (hg : (Jvm.Cond.and given_1 narrow_1).before #[Value.ref b] s = true) : ∃ t : Nat, va_T .int t (zfmL.getD 1 []).length (fun j => .int (Int32.ofInt ((zfmL.getD 1 []).getD j 0))) (ws_A s) s s.heap ∧ va_Z "AnswersFirst" (zforms.getD 0 "") "[I" (.ref t) (ws_A s) s s.heap := by
  have hel : ∀ j : Nat, j < 3 → ws_F[19 + j]? = some (Cond.eq (.elem (Term.static "AnswersFirst" "FORM_BORN" "[I") (.int (Int32.ofNat j))) (.int (Int32.ofInt ((zfmL.getD 1 []).getD j 0)))) := by decide +kernel
  obtain ⟨t, h1, h2⟩ := va_Tof (tm := (Term.static "AnswersFirst" "FORM_BORN" "[I")) (ty := .int) (N := 3) (f := fun j => .int (Int32.ofInt ((zfmL.getD 1 []).getD j 0))) (A := ws_A s) (by decide) (ws_at hg (i := 17) (by decide +kernel)) (va_eqt (ws_at hg (i := 18) (by decide +kernel))) (fun j hj => va_eqt (ws_at hg (hel j hj))) ws_hA
  exact ⟨t, h2, va_Zof (hts _ (zm_4 (i := 98) (by decide +kernel))) (hts _ (zm_1 (i := 1) (by decide +kernel))) h1 ws_hA⟩
set_option maxRecDepth 100000 in
set_option maxHeartbeats 4000000 in
theorem ws_f1 (hts : ∀ w ∈ lw_tbl, w.before #[Value.ref b] s = true) (hg : (Jvm.Cond.and given_1 narrow_1).before #[Value.ref b] s = true) : ∃ t : Nat, va_T .int t (zfmL.getD 2 []).length (fun j => .int (Int32.ofInt ((zfmL.getD 2 []).getD j 0))) (ws_A s) s s.heap ∧ va_Z "AnswersFirst" (zforms.getD 1 "") "[I" (.ref t) (ws_A s) s s.heap := by
  have hel : ∀ j : Nat, j < 8 → ws_F[25 + j]? = some (Cond.eq (.elem (Term.static "AnswersFirst" "FORM_PARENTS" "[I") (.int (Int32.ofNat j))) (.int (Int32.ofInt ((zfmL.getD 2 []).getD j 0)))) := by decide +kernel
  obtain ⟨t, h1, h2⟩ := va_Tof (tm := (Term.static "AnswersFirst" "FORM_PARENTS" "[I")) (ty := .int) (N := 8) (f := fun j => .int (Int32.ofInt ((zfmL.getD 2 []).getD j 0))) (A := ws_A s) (by decide) (ws_at hg (i := 23) (by decide +kernel)) (va_eqt (ws_at hg (i := 24) (by decide +kernel))) (fun j hj => va_eqt (ws_at hg (hel j hj))) ws_hA
  exact ⟨t, h2, va_Zof (hts _ (zm_4 (i := 100) (by decide +kernel))) (hts _ (zm_1 (i := 1) (by decide +kernel))) h1 ws_hA⟩
set_option maxRecDepth 100000 in
set_option maxHeartbeats 4000000 in
theorem ws_f2 (hts : ∀ w ∈ lw_tbl, w.before #[Value.ref b] s = true) (hg : (Jvm.Cond.and given_1 narrow_1).before #[Value.ref b] s = true) : ∃ t : Nat, va_T .int t (zfmL.getD 3 []).length (fun j => .int (Int32.ofInt ((zfmL.getD 3 []).getD j 0))) (ws_A s) s s.heap ∧ va_Z "AnswersFirst" (zforms.getD 2 "") "[I" (.ref t) (ws_A s) s s.heap := by
  have hel : ∀ j : Nat, j < 11 → ws_F[36 + j]? = some (Cond.eq (.elem (Term.static "AnswersFirst" "FORM_PATH" "[I") (.int (Int32.ofNat j))) (.int (Int32.ofInt ((zfmL.getD 3 []).getD j 0)))) := by decide +kernel
  obtain ⟨t, h1, h2⟩ := va_Tof (tm := (Term.static "AnswersFirst" "FORM_PATH" "[I")) (ty := .int) (N := 11) (f := fun j => .int (Int32.ofInt ((zfmL.getD 3 []).getD j 0))) (A := ws_A s) (by decide) (ws_at hg (i := 34) (by decide +kernel)) (va_eqt (ws_at hg (i := 35) (by decide +kernel))) (fun j hj => va_eqt (ws_at hg (hel j hj))) ws_hA
  exact ⟨t, h2, va_Zof (hts _ (zm_4 (i := 102) (by decide +kernel))) (hts _ (zm_1 (i := 1) (by decide +kernel))) h1 ws_hA⟩
set_option maxRecDepth 100000 in
set_option maxHeartbeats 4000000 in
theorem ws_f3 (hts : ∀ w ∈ lw_tbl, w.before #[Value.ref b] s = true) (hg : (Jvm.Cond.and given_1 narrow_1).before #[Value.ref b] s = true) : ∃ t : Nat, va_T .int t (zfmL.getD 4 []).length (fun j => .int (Int32.ofInt ((zfmL.getD 4 []).getD j 0))) (ws_A s) s s.heap ∧ va_Z "AnswersFirst" (zforms.getD 3 "") "[I" (.ref t) (ws_A s) s s.heap := by
  have hel : ∀ j : Nat, j < 3 → ws_F[50 + j]? = some (Cond.eq (.elem (Term.static "AnswersFirst" "FORM_SAY" "[I") (.int (Int32.ofNat j))) (.int (Int32.ofInt ((zfmL.getD 4 []).getD j 0)))) := by decide +kernel
  obtain ⟨t, h1, h2⟩ := va_Tof (tm := (Term.static "AnswersFirst" "FORM_SAY" "[I")) (ty := .int) (N := 3) (f := fun j => .int (Int32.ofInt ((zfmL.getD 4 []).getD j 0))) (A := ws_A s) (by decide) (ws_at hg (i := 48) (by decide +kernel)) (va_eqt (ws_at hg (i := 49) (by decide +kernel))) (fun j hj => va_eqt (ws_at hg (hel j hj))) ws_hA
  exact ⟨t, h2, va_Zof (hts _ (zm_4 (i := 104) (by decide +kernel))) (hts _ (zm_1 (i := 1) (by decide +kernel))) h1 ws_hA⟩
set_option maxRecDepth 100000 in
set_option maxHeartbeats 4000000 in
theorem ws_f4 (hts : ∀ w ∈ lw_tbl, w.before #[Value.ref b] s = true) (hg : (Jvm.Cond.and given_1 narrow_1).before #[Value.ref b] s = true) : ∃ t : Nat, va_T .int t (zfmL.getD 5 []).length (fun j => .int (Int32.ofInt ((zfmL.getD 5 []).getD j 0))) (ws_A s) s s.heap ∧ va_Z "AnswersFirst" (zforms.getD 4 "") "[I" (.ref t) (ws_A s) s s.heap := by
  have hel : ∀ j : Nat, j < 19 → ws_F[56 + j]? = some (Cond.eq (.elem (Term.static "AnswersFirst" "FORM_PUPIL" "[I") (.int (Int32.ofNat j))) (.int (Int32.ofInt ((zfmL.getD 5 []).getD j 0)))) := by decide +kernel
  obtain ⟨t, h1, h2⟩ := va_Tof (tm := (Term.static "AnswersFirst" "FORM_PUPIL" "[I")) (ty := .int) (N := 19) (f := fun j => .int (Int32.ofInt ((zfmL.getD 5 []).getD j 0))) (A := ws_A s) (by decide) (ws_at hg (i := 54) (by decide +kernel)) (va_eqt (ws_at hg (i := 55) (by decide +kernel))) (fun j hj => va_eqt (ws_at hg (hel j hj))) ws_hA
  exact ⟨t, h2, va_Zof (hts _ (zm_4 (i := 106) (by decide +kernel))) (hts _ (zm_1 (i := 1) (by decide +kernel))) h1 ws_hA⟩
set_option maxRecDepth 100000 in
set_option maxHeartbeats 4000000 in
theorem ws_f5 (hts : ∀ w ∈ lw_tbl, w.before #[Value.ref b] s = true) (hg : (Jvm.Cond.and given_1 narrow_1).before #[Value.ref b] s = true) : ∃ t : Nat, va_T .int t (zfmL.getD 6 []).length (fun j => .int (Int32.ofInt ((zfmL.getD 6 []).getD j 0))) (ws_A s) s s.heap ∧ va_Z "AnswersFirst" (zforms.getD 5 "") "[I" (.ref t) (ws_A s) s s.heap := by
  have hel : ∀ j : Nat, j < 3 → ws_F[78 + j]? = some (Cond.eq (.elem (Term.static "AnswersFirst" "FORM_ANSWER" "[I") (.int (Int32.ofNat j))) (.int (Int32.ofInt ((zfmL.getD 6 []).getD j 0)))) := by decide +kernel
  obtain ⟨t, h1, h2⟩ := va_Tof (tm := (Term.static "AnswersFirst" "FORM_ANSWER" "[I")) (ty := .int) (N := 3) (f := fun j => .int (Int32.ofInt ((zfmL.getD 6 []).getD j 0))) (A := ws_A s) (by decide) (ws_at hg (i := 76) (by decide +kernel)) (va_eqt (ws_at hg (i := 77) (by decide +kernel))) (fun j hj => va_eqt (ws_at hg (hel j hj))) ws_hA
  exact ⟨t, h2, va_Zof (hts _ (zm_4 (i := 108) (by decide +kernel))) (hts _ (zm_1 (i := 1) (by decide +kernel))) h1 ws_hA⟩
set_option maxRecDepth 100000 in
set_option maxHeartbeats 4000000 in
theorem ws_f6 (hts : ∀ w ∈ lw_tbl, w.before #[Value.ref b] s = true) (hg : (Jvm.Cond.and given_1 narrow_1).before #[Value.ref b] s = true) : ∃ t : Nat, va_T .int t (zfmL.getD 7 []).length (fun j => .int (Int32.ofInt ((zfmL.getD 7 []).getD j 0))) (ws_A s) s s.heap ∧ va_Z "AnswersFirst" (zforms.getD 6 "") "[I" (.ref t) (ws_A s) s s.heap := by
  have hel : ∀ j : Nat, j < 6 → ws_F[84 + j]? = some (Cond.eq (.elem (Term.static "AnswersFirst" "FORM_ASKS" "[I") (.int (Int32.ofNat j))) (.int (Int32.ofInt ((zfmL.getD 7 []).getD j 0)))) := by decide +kernel
  obtain ⟨t, h1, h2⟩ := va_Tof (tm := (Term.static "AnswersFirst" "FORM_ASKS" "[I")) (ty := .int) (N := 6) (f := fun j => .int (Int32.ofInt ((zfmL.getD 7 []).getD j 0))) (A := ws_A s) (by decide) (ws_at hg (i := 82) (by decide +kernel)) (va_eqt (ws_at hg (i := 83) (by decide +kernel))) (fun j hj => va_eqt (ws_at hg (hel j hj))) ws_hA
  exact ⟨t, h2, va_Zof (hts _ (zm_4 (i := 110) (by decide +kernel))) (hts _ (zm_1 (i := 1) (by decide +kernel))) h1 ws_hA⟩
set_option maxRecDepth 100000 in
set_option maxHeartbeats 4000000 in
theorem ws_f7 (hts : ∀ w ∈ lw_tbl, w.before #[Value.ref b] s = true) (hg : (Jvm.Cond.and given_1 narrow_1).before #[Value.ref b] s = true) : ∃ t : Nat, va_T .int t (zfmL.getD 8 []).length (fun j => .int (Int32.ofInt ((zfmL.getD 8 []).getD j 0))) (ws_A s) s s.heap ∧ va_Z "AnswersFirst" (zforms.getD 7 "") "[I" (.ref t) (ws_A s) s s.heap := by
  have hel : ∀ j : Nat, j < 4 → ws_F[12 + j]? = some (Cond.eq (.elem (Term.static "AnswersFirst" "FORM_BE" "[I") (.int (Int32.ofNat j))) (.int (Int32.ofInt ((zfmL.getD 8 []).getD j 0)))) := by decide +kernel
  obtain ⟨t, h1, h2⟩ := va_Tof (tm := (Term.static "AnswersFirst" "FORM_BE" "[I")) (ty := .int) (N := 4) (f := fun j => .int (Int32.ofInt ((zfmL.getD 8 []).getD j 0))) (A := ws_A s) (by decide) (ws_at hg (i := 10) (by decide +kernel)) (va_eqt (ws_at hg (i := 11) (by decide +kernel))) (fun j hj => va_eqt (ws_at hg (hel j hj))) ws_hA
  exact ⟨t, h2, va_Zof (hts _ (zm_4 (i := 92) (by decide +kernel))) (hts _ (zm_1 (i := 1) (by decide +kernel))) h1 ws_hA⟩
set_option maxRecDepth 100000 in
set_option maxHeartbeats 4000000 in
theorem ws_f8 (hts : ∀ w ∈ lw_tbl, w.before #[Value.ref b] s = true) (hg : (Jvm.Cond.and given_1 narrow_1).before #[Value.ref b] s = true) : ∃ t : Nat, va_T .int t (zfmL.getD 9 []).length (fun j => .int (Int32.ofInt ((zfmL.getD 9 []).getD j 0))) (ws_A s) s s.heap ∧ va_Z "AnswersFirst" (zforms.getD 8 "") "[I" (.ref t) (ws_A s) s s.heap := by
  have hel : ∀ j : Nat, j < 0 → ws_F[0 + j]? = some (Cond.eq (.elem (Term.static "AnswersFirst" "FORM_NOTHING" "[I") (.int (Int32.ofNat j))) (.int (Int32.ofInt ((zfmL.getD 9 []).getD j 0)))) := by decide +kernel
  obtain ⟨t, h1, h2⟩ := va_Tof (tm := (Term.static "AnswersFirst" "FORM_NOTHING" "[I")) (ty := .int) (N := 0) (f := fun j => .int (Int32.ofInt ((zfmL.getD 9 []).getD j 0))) (A := ws_A s) (by decide) (ws_at hg (i := 91) (by decide +kernel)) (va_eqt (ws_at hg (i := 92) (by decide +kernel))) (fun j hj => va_eqt (ws_at hg (hel j hj))) ws_hA
  exact ⟨t, h2, va_Zof (hts _ (zm_4 (i := 112) (by decide +kernel))) (hts _ (zm_1 (i := 1) (by decide +kernel))) h1 ws_hA⟩
def ws_t : Nat → Term := fun i => if i = 0 then Term.string "AnswersFirst$Tape" 83 else Term.string "AnswersFirst$Tape" 94
theorem ws_2 {i : Nat} (h : i < 2) : i = 0 ∨ i = 1 := by omega
set_option maxRecDepth 100000 in
set_option maxHeartbeats 4000000 in
theorem ws_s (hts : ∀ w ∈ lw_tbl, w.before #[Value.ref b] s = true) (hg : (Jvm.Cond.and given_1 narrow_1).before #[Value.ref b] s = true) : ∃ adK adV : Nat → Nat, vk_S 2 zslen zsbyt adK adV (ws_A s) s s.heap ∧ vk_R "AnswersFirst$Tape" zkW zwords (adK 0) s ∧ vk_R "AnswersFirst$Tape" zkS zsigns (adK 1) s := by
  have e0 : ∀ j : Nat, j < 119 → ws_F[97 + j]? = some (Cond.eq (.elem (.field (Term.string "AnswersFirst$Tape" 83) "java/lang/String" "value" "[B") (.int (Int32.ofNat j))) (.int ((zsbyt.getD 0 []).getD j 0))) := by decide +kernel
  have e1 : ∀ j : Nat, j < 13 → ws_F[220 + j]? = some (Cond.eq (.elem (.field (Term.string "AnswersFirst$Tape" 94) "java/lang/String" "value" "[B") (.int (Int32.ofNat j))) (.int ((zsbyt.getD 1 []).getD j 0))) := by decide +kernel
  obtain ⟨adK, adV, h1, h2⟩ := vk_Sof (args := #[Value.ref b]) (s := s) (N := 2) (tm := ws_t) (len := zslen) (byt := zsbyt) (A := ws_A s) (fun i hi => by rcases ws_2 hi with rfl | rfl <;> decide)
    (fun i hi => by
      rcases ws_2 hi with rfl | rfl
      · exact ws_at hg (i := 93) (by decide +kernel)
      · exact ws_at hg (i := 216) (by decide +kernel))
    (fun i hi => by
      rcases ws_2 hi with rfl | rfl
      · exact ws_at hg (i := 94) (by decide +kernel)
      · exact ws_at hg (i := 217) (by decide +kernel))
    (fun i hi => by
      rcases ws_2 hi with rfl | rfl
      · exact ws_at hg (i := 95) (by decide +kernel)
      · exact ws_at hg (i := 218) (by decide +kernel))
    (fun i hi => by
      rcases ws_2 hi with rfl | rfl
      · exact ws_at hg (i := 96) (by decide +kernel)
      · exact ws_at hg (i := 219) (by decide +kernel))
    (fun i hi j hj => by
      rcases ws_2 hi with rfl | rfl
      · exact ws_at hg (e0 j hj)
      · exact ws_at hg (e1 j hj))
    (fun i j hi hj hne => by
      rcases ws_2 hi with rfl | rfl
      · rcases ws_2 hj with rfl | rfl
        · exact absurd rfl hne
        · exact Or.inl (ws_at hg (i := 233) (by decide +kernel))
      · rcases ws_2 hj with rfl | rfl
        · exact Or.inr (ws_at hg (i := 233) (by decide +kernel))
        · exact absurd rfl hne)
    ws_hA
  exact ⟨adK, adV, h1, vk_R.of (hts _ (zm_3 (i := 129) (by decide +kernel))) (h2 0 (by decide)), vk_R.of (hts _ (zm_3 (i := 182) (by decide +kernel))) (h2 1 (by decide))⟩
theorem ws_c (hts : ∀ w ∈ lw_tbl, w.before #[Value.ref b] s = true) (hg : (Jvm.Cond.and given_1 narrow_1).before #[Value.ref b] s = true) : va_Z "java/lang/String" "COMPACT_STRINGS" "Z" (.int 1) (ws_A s) s s.heap :=
  va_Zof (hts _ (zm_3 (i := 139) (by decide +kernel))) (hts _ (zm_1 (i := 16) (by decide +kernel))) (va_eqt (ws_at hg (i := 4) (by decide +kernel))) ws_hA
theorem ws_q (hts : ∀ w ∈ lw_tbl, w.before #[Value.ref b] s = true) (hg : (Jvm.Cond.and given_1 narrow_1).before #[Value.ref b] s = true) : va_Zq "jdk/internal/util/Preconditions" "SIOOBE_FORMATTER" "Ljava/util/function/BiFunction;" (ws_A s) s s.heap :=
  va_Zqof (hts _ (zm_3 (i := 155) (by decide +kernel))) (hts _ (zm_1 (i := 18) (by decide +kernel))) (ws_at hg (i := 5) (by decide +kernel)) ws_hA
theorem ws_kn {own : String} {idx ci N : Nat} (h : znw own idx ci N) (hts : ∀ w ∈ zTs, w.before #[Value.ref b] s = true) : ∃ q : ClassId × (Nat → Nat), ∀ r, vwCl[ci]? = some r → u_Kn s r.1 r.2.1 r.2.2 q.1 q.2 := by
  obtain ⟨C, T, ty, hcl, -, w2, -, hin, -, -⟩ := h
  obtain ⟨cC, iS, hk⟩ := u_known (C := C) (T := T) (N := N) (n := N) hts hin (hts _ w2)
  refine ⟨(cC, iS), fun r hr => ?_⟩
  rw [hcl] at hr
  cases hr
  exact hk
theorem ws_cl (hts : ∀ w ∈ zTs, w.before #[Value.ref b] s = true) : ∃ D : va_G, ∀ (c : Nat) (q : vw_C), vwCl[c]? = some q → u_Kn s q.1 q.2.1 q.2.2 (D.1 c) (D.2 c) := by
  have h : ∀ ci : Nat, ∃ q : ClassId × (Nat → Nat), ∀ r, vwCl[ci]? = some r → u_Kn s r.1 r.2.1 r.2.2 q.1 q.2 := fun ci => match ci with
    | 0 => ws_kn nX11_57 hts
    | 1 => ws_kn nX3_9 hts
    | 2 => ws_kn nX11_43 hts
    | 3 => ws_kn nX11_29 hts
    | 4 => ws_kn nX11_16 hts
    | 5 => ws_kn nX11_64 hts
    | 6 => ws_kn nX11_36 hts
    | 7 => ws_kn nX11_23 hts
    | 8 => ws_kn nX4_9 hts
    | 9 => ws_kn nX11_50 hts
    | 10 => ws_kn nX11_7 hts
    | 11 => ws_kn nL_7 hts
    | 12 => ws_kn nL_10 hts
    | n + 13 => ⟨((0 : Nat), fun _ => 0), fun r hr => by simp [vwCl] at hr⟩
  obtain ⟨f, hf⟩ := Classical.axiomOfChoice h
  exact ⟨(fun c => (f c).1, fun c => (f c).2), hf⟩
theorem ws_ar {ty : FieldType} (hw : (Cond.arrayClass ty).before #[Value.ref b] s = true) : ∃ c : ClassId, ArrOfT s c ty ∧ s.vm.findClass ("[" ++ ty.toString) = some c := by
  obtain ⟨c, k, comp, h1, h2, h3⟩ := Cond.arrayClass_spec (args := #[Value.ref b]) (first := s) (o := none) (idx := []) hw
  exact ⟨c, fun n z => ⟨(fun k h => by cases h), k, h2, comp, h3⟩, h1⟩
theorem ws_ao {C : String} (hw : (Cond.arrayOver (.object C)).before #[Value.ref b] s = true) : ∃ c : ClassId, ArrOfT s c (.object C) ∧ va_RA s c (.object C) := by
  obtain ⟨comp, c, k, h1, -, h3, h4, h5⟩ := Cond.arrayOver_spec (args := #[Value.ref b]) (first := s) (o := none) (idx := []) hw
  exact ⟨c, fun n z => ⟨(fun k h => by cases h), k, h3, comp, h4⟩, k, comp, h3, h4, h1, h5⟩
theorem ws_so : Cond.arrayOver (.object "AnswersFirst$Script") ∈ lw_tbl := zm_1 (i := 174) (by decide +kernel)
theorem ws_no : Cond.arrayOver (.object "AnswersFirst$Nodes") ∈ lw_tbl := zm_1 (i := 182) (by decide +kernel)
end WS

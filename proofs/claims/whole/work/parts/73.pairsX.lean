section FMD
def zfS (a b r : Int32) : Spec := { pre := .and (.code yJ9_floorMod_7cf53 cJ9_floorMod_7cf53 3 (some .int)) (.and (.count 2) (.and (.isInt (.arg 0)) (.and (.isInt (.arg 1)) (.and (.eq (.arg 0) (.int a)) (.eq (.arg 1) (.int b)))))), post := .and .returned (.eq .result (.int r)), changes := some [] }
theorem fm_row0 : (NativeRow.find? natives yJ9_floorMod_7cf53.cls yJ9_floorMod_7cf53.name yJ9_floorMod_7cf53.desc).isNone = true := by decide +kernel
theorem fm_row (p : Program) : NativeRow.find? p.tables.natives yJ9_floorMod_7cf53.cls yJ9_floorMod_7cf53.name yJ9_floorMod_7cf53.desc = none := by
  cases p <;> exact Option.isNone_iff_eq_none.mp fm_row0
theorem fm_meets (l : Launch) {a b : Int32} (h0 : b ≠ 0) (h1 : 0 ≤ a ^^^ b) : MeetsLoose l yJ9_floorMod_7cf53 (zfS a b (a - a / b * b)) := by
  refine MeetsLoose.of_body_ov (code := cJ9_floorMod_7cf53) (maxLocals := 3) (ret := some .int) fm_row ?_ ?_
  · intro args s hq
    simp only [zfS, Cond.before_and, Bool.and_eq_true] at hq
    exact hq.1
  · intro p e s m args below meth c s₁ B
    have hpre := B.pre
    simp only [zfS, Cond.before_and, Bool.and_eq_true] at hpre
    obtain ⟨-, hq1, hq2, hq3, hq4, hq5⟩ := hpre
    obtain ⟨a', b', rfl⟩ := Cond.two_ints hq1 hq2 hq3
    have ea : a' = a := by simpa [Cond.before, Cond.holds, Cond.value, Term.eval] using hq4
    have eb : b' = b := by simpa [Cond.before, Cond.holds, Cond.value, Term.eval] using hq5
    subst ea
    subst eb
    have hloc : argsToLocals #[.int a', .int b'] 3 = #[.val (.int a'), .val (.int b'), .unset] := rfl
    obtain ⟨fs, hfs⟩ := handOver_isSome (s := s₁) (some (.int (a' - a' / b' * b'))) B.hears₁
    refine ⟨s₁.setFrames fs, .returned (some (.int (a' - a' / b' * b'))), ?_, B.here.running, B.ended hfs (by intro hz; cases hz), ?_, State.sameBut_nil.mpr ?_⟩
    · unfold entryFrame; rw [hloc]
      refine Steps.instrAtOv (c := _) (by simpa using B.here) ?_
      simp [jvm, wpRun, exec, B.here.top, B.exec, B.bytes, dJ9_floorMod_7cf53_0]
      refine Steps.instrAtOv (c := _) (by simpa using B.here) ?_
      simp [jvm, wpRun, exec, B.here.top, B.exec, B.bytes, dJ9_floorMod_7cf53_1]
      refine Steps.instrAtOv (c := _) (by simpa using B.here) ?_
      simp [jvm, wpRun, exec, B.here.top, B.exec, B.bytes, dJ9_floorMod_7cf53_2, h0]
      refine Steps.instrAtOv (c := _) (by simpa using B.here) ?_
      simp [jvm, wpRun, exec, B.here.top, B.exec, B.bytes, dJ9_floorMod_7cf53_3]
      refine ⟨#[.val (.int a'), .val (.int b'), .val (.int (a' - a' / b' * b'))], rfl, ?_⟩
      refine Steps.instrAtOv (c := _) (by simpa using B.here) ?_
      simp [jvm, wpRun, exec, B.here.top, B.exec, B.bytes, dJ9_floorMod_7cf53_4]
      refine Steps.instrAtOv (c := _) (by simpa using B.here) ?_
      simp [jvm, wpRun, exec, B.here.top, B.exec, B.bytes, dJ9_floorMod_7cf53_5]
      refine Steps.instrAtOv (c := _) (by simpa using B.here) ?_
      simp [jvm, wpRun, exec, B.here.top, B.exec, B.bytes, dJ9_floorMod_7cf53_6]
      refine Steps.instrAtOv (c := _) (by simpa using B.here) ?_
      simp [jvm, wpRun, exec, B.here.top, B.exec, B.bytes, dJ9_floorMod_7cf53_7, ifCond.holds, h1]
      refine Steps.instrAtOv (c := _) (by simpa using B.here) ?_
      simp [jvm, wpRun, exec, B.here.top, B.exec, B.bytes, dJ9_floorMod_7cf53_18]
      refine Steps.instrAtOv (c := _) (by simpa using B.here) ?_
      simp [jvm, wpRun, exec, B.here.top, B.exec, B.bytes, dJ9_floorMod_7cf53_19, B.method₁, B.returns, narrow]
      intro acts
      rw [ret_to B.frames₁ B.method₁ B.notSynchronized rfl rfl hfs]
      exact Steps.refl _
    · simp [zfS, Cond.after, Cond.holds, Cond.value, Term.eval]
    · rw [State.frames_setFrames _ B.cur₁, B.back]
section FMW
variable {p : Program} {l : Launch} {e : Env} {R : Room} {s : State} {m : MethodId} {args : Array Value} {below : List Frame} {meth : Method} {c : Code} {H : Heap} {locs : List Loc} {cells slots : Nat} {Q : State → Prop}
variable {pc : Nat} {ls : Array Slot} {rest : List Value}
theorem va_fmod {cc : ByteArray} (hexec : p.tables.exec = Jvm.exec) (hb : c.code = cc) (hml : c.maxLocals = ls.size) {own : String} {index : Nat} (hown : s.vm.findClass own = some m.cls) (hlink : (Cond.methodLink own index yJ9_floorMod_7cf53).before args s = true) (hstat : (Cond.static yJ9_floorMod_7cf53).before args s = true) (hini : (Cond.initialized "java/lang/Math").before args s = true) (hcode : (Cond.code yJ9_floorMod_7cf53 cJ9_floorMod_7cf53 3 (some .int)).before args s = true)
    (hframes : 1 ≤ R.frames) (hlocals : (rest.map fun v => v.category).sum + 15 ≤ R.locals) (hc : cells ≤ R.cells) (hs : slots ≤ R.slots) {x y : Int32} (h0 : y ≠ 0) (h1 : 0 ≤ x ^^^ y) (hdg : decode cc pc = .ok (.invokestatic index, 3))
    (kk : W p l e R s m args below meth c H locs cells slots Q (F0 m (pc + 3) ls (.int (x - x / y * y) :: rest))) : W p l e R s m args below meth c H locs cells slots Q (F0 m pc ls (.int y :: .int x :: rest)) := by
  intro T hT X
  obtain ⟨v, vm', X', ⟨first, t, hpost⟩, hstep⟩ := X.staticByContractV hexec hown hlink hstat hini hcode (by decide)
    (fm_meets l h0 h1)
    rfl rfl rfl rfl
    (fun args' first o s₂ hq => by
      cases o with
      | returned r => exact ⟨r, rfl⟩
      | threw yy =>
        have hz : (zfS x y (x - x / y * y)).post.value args' first (some (.threw yy)) s₂ [] = some true := by simpa [Cond.after, Cond.holds] using hq
        exact absurd hz va_nvRet)
    (g := F0 m pc ls (.int y :: .int x :: rest)) rfl (by rw [hml]) (argsL := [.int x, .int y]) (rest := rest)
    (fun sig hs => by
      have hq : parseMethodDescriptor "(II)I" = some { parameters := [.int, .int], returnType := some .int } := by decide +kernel
      rw [show yJ9_floorMod_7cf53.desc = "(II)I" from rfl, hq] at hs
      rw [← Option.some.inj hs]; rfl)
    rfl (by rw [hb]; exact hdg)
    (fun vm' hW => by
      simp only [zfS, Cond.before_and, Bool.and_eq_true]
      refine ⟨?_, rfl, rfl, rfl, by simp [Cond.before, Cond.holds, Cond.value, Term.eval], by simp [Cond.before, Cond.holds, Cond.value, Term.eval]⟩
      have q := hcode
      rw [← Cond.code_setVm hW.alike] at q
      simp only [Cond.before, Cond.holds, Cond.value, State.methodNamed?, State.vm_setVm] at q ⊢
      exact q)
    (by show 0 + 1 ≤ R.frames; omega) (by show 2 * 0 + (rest.map fun v => v.category).sum + (3 + 11) + 0 ≤ R.locals; omega) (by show cells + 0 ≤ R.cells; omega) (by show slots + 0 ≤ R.slots; omega)
  obtain rfl : v = some (.int (x - x / y * y)) := by
    rcases v with _ | w
    · simp [zfS, Cond.after, Cond.holds, Cond.value, Term.eval] at hpost
    · cases w <;> simp [zfS, Cond.after, Cond.holds, Cond.value, Term.eval] at hpost
      first | (simp [hpost]; done) | (rename_i r; by_cases hr : r = x - x / y * y <;> simp [hr] at hpost ⊢)
  obtain ⟨t', a1, b1⟩ := kk (T.setVm vm') hT X'
  exact ⟨t', hstep t' a1, b1⟩
end FMW
section FMZ
variable {G : zG} {d : Nat} {mt : zMt} {pc : Nat} {ls st stk : List zV} {n n1 : Nat} {M : zM} {Q : zV → zM → Prop}
theorem zrem_n {a b : Nat} (ha : a < 2 ^ 31) (h0 : 0 < b) (hb : b < 2 ^ 31) : zrem a b = ((a % b : Nat) : Int) := by
  show (nI a - nI a / nI b * nI b).toInt = _
  rw [pk_div ha h0 hb]
  show (Int32.ofInt (a : Int) - Int32.ofInt ((a / b : Nat) : Int) * Int32.ofInt (b : Int)).toInt = _
  rw [← Int32.ofInt_mul, ← Int32.ofInt_sub]
  have e : (a : Int) - ((a / b : Nat) : Int) * (b : Int) = ((a % b : Nat) : Int) := by
    have h1 := Nat.div_add_mod a b
    have h2 : ((b * (a / b) + a % b : Nat) : Int) = (a : Int) := by rw [h1]
    rw [Int.natCast_add, Int.natCast_mul, Int.mul_comm] at h2
    omega
  rw [e]
  have := Nat.mod_lt a h0
  exact z_ti ⟨by omega, by omega⟩
theorem z_fmod {a b : Nat} {idx : Nat} (hd : decode mt.2.1 pc = .ok (.invokestatic idx, 3)) (hk : zMw mt.1.cls idx yJ9_floorMod_7cf53 cJ9_floorMod_7cf53 3 (some .int)) (ha : a < 2 ^ 31) (h0 : 0 < b) (hb : b < 2 ^ 31) (hcs : zcs st ≤ 8) (h : Z G (d + 1) mt (pc + 3) ls ((0, ((a % b : Nat) : Int)) :: st) n n1 M Q) : Z G (d + 1) mt pc ls ((0, (b : Int)) :: (0, (a : Int)) :: st) n n1 M Q := by
  have em := zrem_n ha h0 hb
  have ml := Nat.mod_lt a h0
  refine z_mx (t := 0) (vA := .null) (vB := .null) (vR := .null) (idx := idx) (fun o => ⟨by omega, by omega⟩) hcs (fun p e R s m args below meth c H locs c1 s1 lsC QS hx hbb hml hown hZ o hf hl hc hs k => ?_) h
  have hts := zS_hts hZ args
  refine va_fmod hx hbb hml hown (hts _ hk.1) (hts _ hk.2.1) (hts _ hk.2.2.1) (hts _ hk.2.2.2) hf (by omega) hc hs (x := Int32.ofInt (a : Int)) (y := Int32.ofInt (b : Int)) (nI_ne0 h0 hb) ?_ hd ?_
  · have hx : zxor a b = ((a ^^^ b : Nat) : Int) := zxor_n ha hb
    rw [Int32.le_iff_toInt_le]
    show (0 : Int) ≤ zxor a b
    rw [hx]; omega
  · rw [← em] at k
    have e2 : Int32.ofInt (zrem (a : Int) (b : Int)) = Int32.ofInt (a : Int) - Int32.ofInt (a : Int) / Int32.ofInt (b : Int) * Int32.ofInt (b : Int) := z_as _
    rw [← e2]
    exact k
end FMZ
theorem mwX6_91 : zMw RX6 91 yJ9_floorMod_7cf53 cJ9_floorMod_7cf53 3 (some .int) := ⟨zT_5 (i := 143) (by decide +kernel) rfl, tJ9_floorMod_7cf53, mwX6_85.2.2.1, zT_5 (i := 145) (by decide +kernel) rfl⟩

theorem bc_tab : ∀ s : Nat, s < 64 → (-2147483648 ≤ (s : Int) - (zand (zushr (s : Int) 1) 1431655765) ∧ (s : Int) - (zand (zushr (s : Int) 1) 1431655765) ≤ 2147483647) ∧ (-2147483648 ≤ (zand ((s : Int) - (zand (zushr (s : Int) 1) 1431655765)) 858993459) + (zand (zushr ((s : Int) - (zand (zushr (s : Int) 1) 1431655765)) 2) 858993459) ∧ (zand ((s : Int) - (zand (zushr (s : Int) 1) 1431655765)) 858993459) + (zand (zushr ((s : Int) - (zand (zushr (s : Int) 1) 1431655765)) 2) 858993459) ≤ 2147483647) ∧ (-2147483648 ≤ ((zand ((s : Int) - (zand (zushr (s : Int) 1) 1431655765)) 858993459) + (zand (zushr ((s : Int) - (zand (zushr (s : Int) 1) 1431655765)) 2) 858993459)) + (zushr ((zand ((s : Int) - (zand (zushr (s : Int) 1) 1431655765)) 858993459) + (zand (zushr ((s : Int) - (zand (zushr (s : Int) 1) 1431655765)) 2) 858993459)) 4) ∧ ((zand ((s : Int) - (zand (zushr (s : Int) 1) 1431655765)) 858993459) + (zand (zushr ((s : Int) - (zand (zushr (s : Int) 1) 1431655765)) 2) 858993459)) + (zushr ((zand ((s : Int) - (zand (zushr (s : Int) 1) 1431655765)) 858993459) + (zand (zushr ((s : Int) - (zand (zushr (s : Int) 1) 1431655765)) 2) 858993459)) 4) ≤ 2147483647) ∧ (-2147483648 ≤ (zand (((zand ((s : Int) - (zand (zushr (s : Int) 1) 1431655765)) 858993459) + (zand (zushr ((s : Int) - (zand (zushr (s : Int) 1) 1431655765)) 2) 858993459)) + (zushr ((zand ((s : Int) - (zand (zushr (s : Int) 1) 1431655765)) 858993459) + (zand (zushr ((s : Int) - (zand (zushr (s : Int) 1) 1431655765)) 2) 858993459)) 4)) 252645135) + (zushr (zand (((zand ((s : Int) - (zand (zushr (s : Int) 1) 1431655765)) 858993459) + (zand (zushr ((s : Int) - (zand (zushr (s : Int) 1) 1431655765)) 2) 858993459)) + (zushr ((zand ((s : Int) - (zand (zushr (s : Int) 1) 1431655765)) 858993459) + (zand (zushr ((s : Int) - (zand (zushr (s : Int) 1) 1431655765)) 2) 858993459)) 4)) 252645135) 8) ∧ (zand (((zand ((s : Int) - (zand (zushr (s : Int) 1) 1431655765)) 858993459) + (zand (zushr ((s : Int) - (zand (zushr (s : Int) 1) 1431655765)) 2) 858993459)) + (zushr ((zand ((s : Int) - (zand (zushr (s : Int) 1) 1431655765)) 858993459) + (zand (zushr ((s : Int) - (zand (zushr (s : Int) 1) 1431655765)) 2) 858993459)) 4)) 252645135) + (zushr (zand (((zand ((s : Int) - (zand (zushr (s : Int) 1) 1431655765)) 858993459) + (zand (zushr ((s : Int) - (zand (zushr (s : Int) 1) 1431655765)) 2) 858993459)) + (zushr ((zand ((s : Int) - (zand (zushr (s : Int) 1) 1431655765)) 858993459) + (zand (zushr ((s : Int) - (zand (zushr (s : Int) 1) 1431655765)) 2) 858993459)) 4)) 252645135) 8) ≤ 2147483647) ∧ (-2147483648 ≤ ((zand (((zand ((s : Int) - (zand (zushr (s : Int) 1) 1431655765)) 858993459) + (zand (zushr ((s : Int) - (zand (zushr (s : Int) 1) 1431655765)) 2) 858993459)) + (zushr ((zand ((s : Int) - (zand (zushr (s : Int) 1) 1431655765)) 858993459) + (zand (zushr ((s : Int) - (zand (zushr (s : Int) 1) 1431655765)) 2) 858993459)) 4)) 252645135) + (zushr (zand (((zand ((s : Int) - (zand (zushr (s : Int) 1) 1431655765)) 858993459) + (zand (zushr ((s : Int) - (zand (zushr (s : Int) 1) 1431655765)) 2) 858993459)) + (zushr ((zand ((s : Int) - (zand (zushr (s : Int) 1) 1431655765)) 858993459) + (zand (zushr ((s : Int) - (zand (zushr (s : Int) 1) 1431655765)) 2) 858993459)) 4)) 252645135) 8)) + (zushr ((zand (((zand ((s : Int) - (zand (zushr (s : Int) 1) 1431655765)) 858993459) + (zand (zushr ((s : Int) - (zand (zushr (s : Int) 1) 1431655765)) 2) 858993459)) + (zushr ((zand ((s : Int) - (zand (zushr (s : Int) 1) 1431655765)) 858993459) + (zand (zushr ((s : Int) - (zand (zushr (s : Int) 1) 1431655765)) 2) 858993459)) 4)) 252645135) + (zushr (zand (((zand ((s : Int) - (zand (zushr (s : Int) 1) 1431655765)) 858993459) + (zand (zushr ((s : Int) - (zand (zushr (s : Int) 1) 1431655765)) 2) 858993459)) + (zushr ((zand ((s : Int) - (zand (zushr (s : Int) 1) 1431655765)) 858993459) + (zand (zushr ((s : Int) - (zand (zushr (s : Int) 1) 1431655765)) 2) 858993459)) 4)) 252645135) 8)) 16) ∧ ((zand (((zand ((s : Int) - (zand (zushr (s : Int) 1) 1431655765)) 858993459) + (zand (zushr ((s : Int) - (zand (zushr (s : Int) 1) 1431655765)) 2) 858993459)) + (zushr ((zand ((s : Int) - (zand (zushr (s : Int) 1) 1431655765)) 858993459) + (zand (zushr ((s : Int) - (zand (zushr (s : Int) 1) 1431655765)) 2) 858993459)) 4)) 252645135) + (zushr (zand (((zand ((s : Int) - (zand (zushr (s : Int) 1) 1431655765)) 858993459) + (zand (zushr ((s : Int) - (zand (zushr (s : Int) 1) 1431655765)) 2) 858993459)) + (zushr ((zand ((s : Int) - (zand (zushr (s : Int) 1) 1431655765)) 858993459) + (zand (zushr ((s : Int) - (zand (zushr (s : Int) 1) 1431655765)) 2) 858993459)) 4)) 252645135) 8)) + (zushr ((zand (((zand ((s : Int) - (zand (zushr (s : Int) 1) 1431655765)) 858993459) + (zand (zushr ((s : Int) - (zand (zushr (s : Int) 1) 1431655765)) 2) 858993459)) + (zushr ((zand ((s : Int) - (zand (zushr (s : Int) 1) 1431655765)) 858993459) + (zand (zushr ((s : Int) - (zand (zushr (s : Int) 1) 1431655765)) 2) 858993459)) 4)) 252645135) + (zushr (zand (((zand ((s : Int) - (zand (zushr (s : Int) 1) 1431655765)) 858993459) + (zand (zushr ((s : Int) - (zand (zushr (s : Int) 1) 1431655765)) 2) 858993459)) + (zushr ((zand ((s : Int) - (zand (zushr (s : Int) 1) 1431655765)) 858993459) + (zand (zushr ((s : Int) - (zand (zushr (s : Int) 1) 1431655765)) 2) 858993459)) 4)) 252645135) 8)) 16) ≤ 2147483647) ∧ ((zand (((zand (((zand ((s : Int) - (zand (zushr (s : Int) 1) 1431655765)) 858993459) + (zand (zushr ((s : Int) - (zand (zushr (s : Int) 1) 1431655765)) 2) 858993459)) + (zushr ((zand ((s : Int) - (zand (zushr (s : Int) 1) 1431655765)) 858993459) + (zand (zushr ((s : Int) - (zand (zushr (s : Int) 1) 1431655765)) 2) 858993459)) 4)) 252645135) + (zushr (zand (((zand ((s : Int) - (zand (zushr (s : Int) 1) 1431655765)) 858993459) + (zand (zushr ((s : Int) - (zand (zushr (s : Int) 1) 1431655765)) 2) 858993459)) + (zushr ((zand ((s : Int) - (zand (zushr (s : Int) 1) 1431655765)) 858993459) + (zand (zushr ((s : Int) - (zand (zushr (s : Int) 1) 1431655765)) 2) 858993459)) 4)) 252645135) 8)) + (zushr ((zand (((zand ((s : Int) - (zand (zushr (s : Int) 1) 1431655765)) 858993459) + (zand (zushr ((s : Int) - (zand (zushr (s : Int) 1) 1431655765)) 2) 858993459)) + (zushr ((zand ((s : Int) - (zand (zushr (s : Int) 1) 1431655765)) 858993459) + (zand (zushr ((s : Int) - (zand (zushr (s : Int) 1) 1431655765)) 2) 858993459)) 4)) 252645135) + (zushr (zand (((zand ((s : Int) - (zand (zushr (s : Int) 1) 1431655765)) 858993459) + (zand (zushr ((s : Int) - (zand (zushr (s : Int) 1) 1431655765)) 2) 858993459)) + (zushr ((zand ((s : Int) - (zand (zushr (s : Int) 1) 1431655765)) 858993459) + (zand (zushr ((s : Int) - (zand (zushr (s : Int) 1) 1431655765)) 2) 858993459)) 4)) 252645135) 8)) 16)) 63)) = (zpc s : Int) := by decide +kernel
theorem s_bc {G : zG} {d : Nat} {M : zM} {Q : zV → zM → Prop} (hG : zP G) {s : Nat} (hs : s < 64) (h : Q (0, (zpc s : Int)) M) : Y G d mJ6_bitCount_0f7a4 0 [(0, (s : Int))] [] M Q := by
  have t := bc_tab s hs
  refine bJ6_bitCount_0f7a4_0 hG ?_
  refine ⟨t.1, t.2.1, t.2.2.1, t.2.2.2.1, t.2.2.2.2.1, ?_⟩
  rw [t.2.2.2.2.2]
  exact h
theorem bX6_drawn_6 {G : zG} {d : Nat} {M : zM} {Q : zV → zM → Prop} (hG : zP G) {x1 : Int} {a b : Nat} (ha : a < 2 ^ 31) (hb : 0 < b) (hb2 : b < 2 ^ 31) (h : Y G (d + 1) mX6_drawn 16 [(2, 157), (0, x1), (0, (a : Int)), (0, ((a % b : Nat) : Int)), (0, 0)] [] M Q) : Y G (d + 1) mX6_drawn 6 [(2, 157), (0, x1), (0, (a : Int)), (9, 0), (9, 0)] [(0, (b : Int)), (0, 1), (0, (a : Int))] M Q := by
  refine z_max dX6_drawn_6 mwX6_85 (Nat.le_of_ble_eq_true rfl) ?_
  rw [show max (1 : Int) (b : Int) = (b : Int) from Int.max_eq_right (by omega)]
  refine z_fmod dX6_drawn_9 mwX6_91 ha hb hb2 (Nat.le_of_ble_eq_true rfl) ?_
  refine y_istoren dX6_drawn_12 rfl rfl ?_
  refine z_iconst dX6_drawn_13 ki_0 ?_
  refine y_istore dX6_drawn_14 rfl rfl ?_
  exact h
end FMD

def zex : List zV → List zV
  | [] => []
  | v :: vs => if v.1 = 1 then v :: (9, 0) :: zex vs else v :: zex vs
def zen (vs : List zV) (nL : Nat) : List zV := zex vs ++ List.replicate (nL - (zex vs).length) (9, 0)
theorem z_exlen (G : zG) : ∀ vs : List zV, (lg_sl (vs.map (zc G))).length = (zex vs).length
  | [] => rfl
  | v :: vs => by
    have ih := z_exlen G vs
    unfold lg_sl at ih ⊢
    rw [List.map_cons, List.flatMap_cons, List.length_append, ih, show zex (v :: vs) = (if v.1 = 1 then v :: (9, 0) :: zex vs else v :: zex vs) from rfl]
    by_cases h : v.1 = 1
    · obtain ⟨t, x⟩ := v
      have h : t = 1 := h
      subst h
      rw [if_pos z_cat2, if_pos rfl]
      simp; omega
    · rw [if_neg (by rw [z_cat h]; decide), if_neg h]
      simp; omega
theorem z_exmem (G : zG) : ∀ (vs : List zV) (i k : Nat) (v : zV), (zex vs)[k]? = some v → v.1 ≠ 9 → (i + k, zc G v) ∈ lv_args i (vs.map (zc G))
  | [], i, k, v, h, _ => by simp [zex] at h
  | u :: vs, i, k, v, h, h9 => by
    rw [List.map_cons]
    unfold lv_args
    unfold zex at h
    by_cases hu : u.1 = 1
    · rw [if_pos hu] at h
      have hcat : (zc G u).category = 2 := by
        obtain ⟨t, x⟩ := u
        have hu : t = 1 := hu
        subst hu; rfl
      rw [if_pos hcat]
      match k, h with
      | 0, h =>
        simp only [List.getElem?_cons_zero, Option.some.injEq] at h
        rw [h]; exact List.mem_cons_self
      | 1, h =>
        simp only [List.getElem?_cons_succ, List.getElem?_cons_zero, Option.some.injEq] at h
        rw [← h] at h9; exact absurd rfl h9
      | k + 2, h =>
        simp only [List.getElem?_cons_succ] at h
        have := z_exmem G vs (i + 2) k v h h9
        rw [show i + (k + 2) = i + 2 + k by omega]
        exact List.mem_cons_of_mem _ this
    · rw [if_neg hu] at h
      rw [if_neg (by rw [z_cat hu]; decide)]
      match k, h with
      | 0, h =>
        simp only [List.getElem?_cons_zero, Option.some.injEq] at h
        rw [h]; exact List.mem_cons_self
      | k + 1, h =>
        simp only [List.getElem?_cons_succ] at h
        have := z_exmem G vs (i + 1) k v h h9
        rw [show i + (k + 1) = i + 1 + k by omega]
        exact List.mem_cons_of_mem _ this
theorem z_entry {G : zG} {vs : List zV} {nL : Nat} (h : (zex vs).length ≤ nL) : zL G ((lg_sl (vs.map (zc G)) ++ List.replicate (nL - (lg_sl (vs.map (zc G))).length) Slot.unset).toArray) nL (zen vs nL) := by
  have h0 := lv_entry (vs.map (zc G)) (n := nL) (by rw [z_exlen]; exact h)
  refine ⟨h0.1, h0.2.1, ?_⟩
  rintro ⟨k, w⟩ hq
  obtain ⟨v, hv, h9, rfl⟩ := z_mem_as.mp hq
  unfold zen at hv
  by_cases hk : k < (zex vs).length
  · rw [List.getElem?_append_left hk] at hv
    have := z_exmem G vs 0 k v hv h9
    rw [Nat.zero_add] at this
    exact h0.2.2 _ this
  · rw [List.getElem?_append_right (by omega)] at hv
    have := List.mem_of_getElem? hv
    rw [List.eq_of_mem_replicate this] at h9
    exact absurd rfl h9
theorem z_enlen {vs : List zV} {nL : Nat} (h : (zex vs).length ≤ nL) : (zen vs nL).length = nL := by
  unfold zen; rw [List.length_append, List.length_replicate]; omega
theorem z_exok {vs : List zV} (h : zokL vs) : zokL (zex vs) := by
  induction vs with
  | nil => exact h
  | cons v vs ih =>
    unfold zex
    split
    · exact z_okc (z_okh h) (z_okc (t := 9) trivial (ih (z_okt h)))
    · exact z_okc (z_okh h) (ih (z_okt h))
theorem z_enok {vs : List zV} {nL : Nat} (h : zokL vs) : zokL (zen vs nL) := fun v hv => by
  rcases List.mem_append.mp hv with h1 | h1
  · exact z_exok h v h1
  · rw [List.eq_of_mem_replicate h1]; trivial
def zrv (G : zG) (v : zV) : Option Value := if v.1 = 9 then none else some (zc G v)
def zpush (v : zV) (st : List zV) : List zV := if v.1 = 9 then st else v :: st
def zPc (G : zG) (n : Nat) (M : zM) (vs : List zV) : Array Value → State → Prop := fun a U => a = (vs.map (zc G)).toArray ∧ zS G U ∧ zrep G n M U.heap ∧ U.heap.size = zB G + n
def zQc (G : zG) (n2 : Nat) (Q : zV → zM → Prop) : Array Value → State → Outcome → State → Prop := fun _ s o t => (∃ (v : zV) (M' : zM), o = .returned (zrv G v) ∧ zokM M' ∧ zfix G M' ∧ zin v.1 v.2 ∧ Q v M' ∧ zrep G n2 M' t.heap) ∧ va_F (zA G) s t
theorem z_blind {G : zG} {n : Nat} {M : zM} {vs : List zV} : FrameBlind (zPc G n M vs) := by
  intro a U g mk ⟨h1, h2, h3, h4⟩
  exact ⟨h1, zS_move h2 (State.WarmedH.refl U) (fun _ _ _ => rfl), h3, h4⟩
theorem z_met {G : zG} {d n n2 : Nat} {mt : zMt} {vs : List zV} {M : zM} {Q : zV → zM → Prop} (hpl : plainName mt.1.cls = true) (hlen : (zex vs).length ≤ mt.2.2.1) (hn : n ≤ n2) (oM : zokM M) (oF : zfix G M) (oV : zokL vs)
    (h : Z G d mt 0 (zen vs mt.2.2.1) [] n n2 M Q) :
    Met G.1 mt.1 [Cond.code mt.1 mt.2.1 mt.2.2.1 mt.2.2.2] { frames := d, cells := n2 - n, slots := zsl n2 - zsl n, locals := 60 * d } (zPc G n M vs) (zQc G n2 Q) (n2 - n) (zsl n2 - zsl n) (zA G) := by
  refine Met.ofW (cc := mt.2.1) (maxL := mt.2.2.1) (ret := mt.2.2.2) hpl rfl ?_
  intro p e s m args below meth c s₁ B hml hP
  obtain ⟨rfl, hS, hr, hz⟩ := hP
  rw [lg_entry_eq]
  have hctx : zCtx G d mt p { frames := d, cells := n2 - n, slots := zsl n2 - zsl n, locals := 60 * d } s m meth c :=
    ⟨B.exec, B.bytes, hml, findClass_of_methodNamed B.named, hS, (name_of_methodNamed B.named B.method).1, Nat.le_refl _, Nat.le_refl _, by omega⟩
  refine h oM oF (z_enok oV) (fun _ q => by cases q) p e _ s m _ below meth c s.heap [] 0 0 _ _ hctx va_S.rf hr (z_entry hlen) (z_enlen hlen) (by omega) hn (by show 0 + (n2 - n) ≤ n2 - n; omega) (by show 0 + (zsl n2 - zsl n) ≤ zsl n2 - zsl n; omega) ?_
  intro v M' H' locs' c' s' pc' ls' a1 a2 a3 a4 a5 a6 a7 a8 a9
  have hlk := B.notSynchronized
  have hc' : c' = n2 - n := by omega
  subst hc'
  have hq : ∀ t : State, t.heap = H' → s.WarmedH t.vm → zQc G n2 Q ((vs.map (zc G)).toArray) s (.returned (zrv G v)) t := fun t ht _ => ⟨⟨v, M', rfl, a1, a2, a3, a4, by rw [ht]; exact a5⟩, a6.F ht⟩
  refine ⟨fun hv hret hd => ?_, fun hv hret hd => ?_, fun hv hret hd => ?_⟩
  · obtain ⟨t, x⟩ := v
    have hv : t = 0 := hv
    subst hv
    obtain ⟨ty, hret, hnw⟩ := hret
    exact W.widen (Nat.le_refl _) a9 (W.zret (v := Int32.ofInt x) (ty := ty) B.exec B.bytes (B.returns.trans hret) hnw hq a6.2.2 hd)
  · obtain ⟨t, x⟩ := v
    have hv : t = 1 := hv
    subst hv
    exact W.widen (Nat.le_refl _) a9 (W.lret (v := Int64.ofInt x) B.exec B.bytes (B.returns.trans hret) hq a6.2.2 hd)
  · subst hv
    exact W.widen (Nat.le_refl _) a9 (W.vret B.exec B.bytes (B.returns.trans hret) hq a6.2.2 hd)
section ZC
variable {p : Program} {l : Launch} {e : Env} {R : Room} {s : State} {m : MethodId} {args : Array Value} {below : List Frame} {meth : Method} {c : Code} {H : Heap} {locs : List Loc} {cells slots : Nat} {QS : State → Prop}
theorem z_wsz {g : JFrame} (h : H.size ≤ s.heap.size + cells → W p l e R s m args below meth c H locs cells slots QS g) : W p l e R s m args below meth c H locs cells slots QS g :=
  fun T hT X => h (by rw [← hT]; exact X.heapSize) T hT X
end ZC
theorem z_low {G : zG} {n c1 : Nat} {M : zM} {s : State} {H : Heap} {locs : List Loc} (hr : zrep G n M H) (hS : va_S (zA G) s.heap H locs) (hz : s.heap.size + c1 = zB G + n) (hB : zB G ≤ s.heap.size) (hle : H.size ≤ s.heap.size + c1) : H.size = zB G + n := by
  cases n with
  | zero =>
    have := hS.1
    omega
  | succ k =>
    have h1 := (hr k _ (zws_get (Nat.lt_succ_self k))).lt
    have h2 : zB G + k < H.size := h1
    omega
def zcs (st : List zV) : Nat := (st.map fun v => if v.1 = 1 then 2 else 1).sum
theorem z_cs (G : zG) (st : List zV) : ((st.map (zc G)).map fun v => v.category).sum = zcs st := by
  unfold zcs
  rw [List.map_map]
  congr 1
  apply List.map_congr_left
  intro v _
  show (zc G v).category = _
  by_cases h : v.1 = 1
  · obtain ⟨t, x⟩ := v
    have h : t = 1 := h
    subst h; rfl
  · rw [z_cat h, if_neg h]
theorem z_good1 {mt : zMt} {k : Nat} (h : zmk mt k) : GoodIn zTs [Cond.code mt.1 mt.2.1 mt.2.2.1 mt.2.2.2] := fun w hw => by
  rw [List.mem_singleton.mp hw]; exact ⟨h.1, zTs_good h.1⟩
section ZR
variable {G : zG} {d : Nat} {mt : zMt} {pc : Nat} {ls st stk : List zV} {n n1 n2 : Nat} {M : zM} {Q : zV → zM → Prop}
/-- behind a call -/
theorem z_back {p : Program} {e : Env} {R : Room} {s : State} {m : MethodId} {args : Array Value} {below : List Frame} {meth : Method} {c : Code} {H : Heap} {locs : List Loc} {c1 s1 : Nat} {lsC : Array Slot} {QS : State → Prop} {a : Array Value} {stC : List Value}
    (hrun : va_Run p G.1 e R s m args below meth c H locs c1 s1 (n2 - n) (zsl n2 - zsl n) (F0 m pc lsC stC) (st.map (zc G)) (zQc G n2 (fun r M' => Z G (d + 1) mt (pc + 3) ls (zpush r st) n2 n1 M' Q) a) (zA G))
    (oL : zokL ls) (oS : zokL st) (X : zCtx G (d + 1) mt p R s m meth c) (hS : va_S (zA G) s.heap H locs) (hl : zL G lsC mt.2.2.1 ls) (hll : ls.length = mt.2.2.1) (hz : s.heap.size + c1 = zB G + n) (hn2 : n ≤ n2) (hn : n2 ≤ n1) (hc : c1 + (n1 - n) ≤ R.cells) (hsl : zsl n ≤ zsl n2 ∧ zsl n2 ≤ zsl n1) (hs : s1 + (zsl n1 - zsl n) ≤ R.slots)
    (hE : zEnd G mt n1 Q p e R s m args below meth c QS) : W p G.1 e R s m args below meth c H locs c1 s1 QS (F0 m pc lsC stC) := by
  intro T hT XS
  obtain ⟨v, st₀, t, T', L, h0, X', hL, e1, e2, ⟨⟨r, M', hv, o1, o2, o3, hq, hr2⟩, hF⟩, hst⟩ := hrun T hT XS
  cases hv
  obtain ⟨hF1, hF2⟩ := hF
  rw [h0] at hF1 hF2
  have hS' : va_S (zA G) s.heap T'.heap (locs ++ L) := ⟨Nat.le_trans hS.1 (by rw [e1]; exact hF1), fun q h1 h2 => by rw [e1, hF2 q (Nat.lt_of_lt_of_le h1 hS.1) h2]; exact hS.2.1 q h1 h2, fun q hq => by
    rcases List.mem_append.mp hq with h | h
    · exact hS.2.2 q h
    · exact hL q h⟩
  have oS' : zokL (zpush r st) := by
    unfold zpush; split
    · exact oS
    · exact z_okc o3 oS
  have hW := hq o1 o2 oL oS' p e R s m args below meth c T'.heap (locs ++ L) (c1 + (n2 - n)) (s1 + (zsl n2 - zsl n)) lsC QS X hS' (by rw [e1]; exact hr2) hl hll (by omega) hn (by omega) (by omega) hE
  obtain ⟨t2, b1, b2⟩ := hW T' rfl X'
  refine ⟨t2, hst t2 ?_, b2⟩
  have e3 : (zrv G r).toList ++ st.map (zc G) = (zpush r st).map (zc G) := by
    unfold zrv zpush; split <;> rfl
  show Steps p.tables e below (T'.setTop { F0 m pc lsC stC with pc := pc + 3, stack := (zrv G r).toList ++ st.map (zc G) }) t2
  rw [e3]
  exact b1
theorem zsl_mono {a b : Nat} (h : a ≤ b) : zsl a ≤ zsl b := by
  induction h with
  | refl => exact Nat.le_refl _
  | step _ ih => exact Nat.le_trans ih (Nat.le_add_right _ _)
/-- a call of an object's method -/
theorem z_callv {mt2 : zMt} {idx ci len : Nat} {b : Int} {as : List zV} (hd : decode mt.2.1 pc = .ok (.invokevirtual idx, 3)) (hk : zlk mt.1.cls idx mt2.1) (hm : zmk mt2 as.length) (hi : Cond.instanceMethod mt2.1 ∈ zTs) (hse : Cond.selects mt2.1.cls mt2.1 mt2.1 ∈ zTs)
    (hsk : stk = as.reverse ++ (2, b) :: st) (hb : 1 ≤ b ∧ b ≤ n) (hsh : zsh b.toNat = (ci, len)) (hci : ci < 100 ∧ (vwCl[ci]?).map (fun q => q.1) = some mt2.1.cls) (hcs : zcs st ≤ 8) (hex : (zex ((2, b) :: as)).length ≤ mt2.2.2.1) (hn2 : n ≤ n2 ∧ n2 ≤ n1)
    (h : Z G d mt2 0 (zen ((2, b) :: as) mt2.2.2.1) [] n n2 M (fun r M' => Z G (d + 1) mt (pc + 3) ls (zpush r st) n2 n1 M' Q)) : Z G (d + 1) mt pc ls stk n n1 M Q := by
  subst hsk
  intro oM oF oL oS p e R s m args below meth c H locs c1 s1 lsC QS X hS hr hl hll hz hn hc hs hE
  have oS1 : zokL ((2, b) :: st) := fun v hv => oS v (List.mem_append_right _ hv)
  have oA : zokL ((2, b) :: as) := z_okc (t := 2) trivial (fun v hv => oS v (List.mem_append_left _ (List.mem_reverse.mpr hv)))
  refine z_wsz fun hle => ?_
  have hsz := z_low hr hS hz X.2.2.2.2.2.2.2.2 hle
  have hM := z_met hm.2.2.2.1 hex hn2.1 oM oF oA h
  have hts := zS_hts X.2.2.2.2.1 args
  have he := z_ta (G := G) (M := M) hb.1 hb.2
  rw [z_cell_obj hsh hci.1] at he
  obtain ⟨q, hq, hqc⟩ : ∃ q, vwCl[ci]? = some q ∧ q.1 = mt2.1.cls := by
    cases hv : vwCl[ci]? with
    | none => rw [hv] at hci; exact absurd hci.2 (by simp)
    | some q => rw [hv] at hci; exact ⟨q, rfl, by simpa using hci.2⟩
  have hp : PreV s H mt2.1.cls (zB G + (b - 1).toNat) (zPc G n M ((2, b) :: as)) (as.map (zc G)) := by
    refine ⟨z_blind, ?_, fun U hU hW => ⟨by rw [List.map_cons, z_rf hb.1], zS_move X.2.2.2.2.1 hW (fun q h1 h2 => by rw [hU]; exact hS.2.1 q h1 h2), by rw [hU]; exact hr, by rw [hU]; exact hsz⟩⟩
    have := va_recv X.2.2.2.2.1.2.2.2.1 hr hq he
    rw [hqc] at this
    exact this
  have hstk : (F0 m pc lsC ((as.reverse ++ (2, b) :: st).map (zc G))).stack = (as.map (zc G)).reverse ++ .ref (zB G + (b - 1).toNat) :: st.map (zc G) := by
    show (as.reverse ++ (2, b) :: st).map (zc G) = _
    rw [List.map_append, List.map_cons, z_rf hb.1, List.map_reverse]
  have hfr : ({ frames := d, cells := n2 - n, slots := zsl n2 - zsl n, locals := 60 * d } : Room).frames + 1 ≤ R.frames ∧ 8 + (mt2.2.2.1 + 11) + ({ frames := d, cells := n2 - n, slots := zsl n2 - zsl n, locals := 60 * d } : Room).locals ≤ R.locals := by
    have h1 := X.2.2.2.2.2.2.1
    have h2 := X.2.2.2.2.2.2.2.1
    have h3 := hm.2.2.2.2
    constructor
    · show d + 1 ≤ R.frames; omega
    · show 8 + (mt2.2.2.1 + 11) + 60 * d ≤ R.locals; omega
  have hsl1 := zsl_mono hn2.1
  have hsl2 := zsl_mono hn2.2
  have hrun : va_Run p G.1 e R s m args below meth c H locs c1 s1 (n2 - n) (zsl n2 - zsl n) (F0 m pc lsC ((as.reverse ++ (2, b) :: st).map (zc G))) (st.map (zc G)) (zQc G n2 (fun r M' => Z G (d + 1) mt (pc + 3) ls (zpush r st) n2 n1 M' Q) (Value.ref (zB G + (b - 1).toNat) :: as.map (zc G)).toArray) (zA G) := by
    rcases hk with hk | ⟨host, hk⟩
    · exact va_runV ⟨X.1, X.2.1, X.2.2.1, X.2.2.2.1, hts⟩ hM ⟨callB_of as.length hts (z_good1 hm) rfl rfl rfl (hts _ hm.2.1) (hts _ hk) hm.2.2.1 hfr, hts _ hi, hts _ hse⟩ hp rfl (by simp) hl.1 hstk (lv_room (by rw [z_cs]; exact hcs)) hd ⟨by omega, by omega⟩
    · exact va_runVN ⟨X.1, X.2.1, X.2.2.1, X.2.2.2.1, hts⟩ hM ⟨va_cnB as.length hts (z_good1 hm) rfl rfl rfl (X.2.2.2.2.1.2.1 _ hk) (hts _ hm.2.1) hm.2.2.1 hfr, hts _ hi, hts _ hse⟩ hp rfl (by simp) hl.1 hstk (lv_room (by rw [z_cs]; exact hcs)) hd ⟨by omega, by omega⟩
  exact z_back hrun oL (z_okt oS1) X hS hl hll hz hn2.1 hn2.2 hc ⟨hsl1, hsl2⟩ hs hE
end ZR

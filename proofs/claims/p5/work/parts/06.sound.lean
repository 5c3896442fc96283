/-! SOUNDNESS, instruction by instruction -/
theorem sv_cat (z : mZ) (v : Value) : (sv z v).category = v.category := by
  cases v with
  | retAddr n => rcases n with _ | _ | n <;> rfl
  | _ => rfl
theorem mget_in {lv : mL} {i : Nat} {v : Value} (h : mget lv i = some v) : (i, v) ∈ lv := by
  unfold mget at h
  rw [Option.map_eq_some_iff] at h
  obtain ⟨q, h1, h2⟩ := h
  have h3 := List.find?_some h1
  have h4 : q.1 = i := Nat.eq_of_beq_eq_true h3
  have h5 := List.mem_of_find?_eq_some h1
  obtain ⟨a, b⟩ := q
  cases h4; cases h2
  exact h5
theorem mget_ls {z : mZ} {ls : Array Slot} {nL : Nat} {lv : mL} {i : Nat} {v : Value} (hl : lv_has ls nL (lv.map (ml z))) (h : mget lv i = some v) : ls[i]? = some (.val (sv z v)) :=
  hl.2.2 (i, sv z v) (List.mem_map.mpr ⟨(i, v), mget_in h, rfl⟩)
theorem mput_map (z : mZ) (lv : mL) (i : Nat) (v : Value) : (i, sv z v) :: (lv.map (ml z)).filter (fun q => !(q.1 == i) && !(q.1 + 1 == i && q.2.category == 2)) = (mput lv i v).map (ml z) := by
  unfold mput
  rw [List.map_cons, List.filter_map]
  congr 2
  apply List.filter_congr
  intro q _
  show (!((ml z q).1 == i) && !((ml z q).1 + 1 == i && (ml z q).2.category == 2)) = _
  unfold ml
  rw [sv_cat]
/-- where the pure machine and the machine stand together -/
def mAt (z : mZ) (ca : Nat → ClassId) (D : va_G) (H0 : Heap) (nL L0 S0 : Nat) (lv : mL) (h : mS) (H : Heap) (locs : List Loc) (ls : Array Slot) (cells slots : Nat) : Prop :=
  mP z ca D h.1 H ∧ va_S (fun q => z.1 ≤ q) H0 H locs ∧ lv_has ls nL (lv.map (ml z)) ∧ h.1.length = L0 + cells ∧ h.2 = S0 + slots
section MS
variable {p : Program} {l : Launch} {e : Env} {R : Room} {s : State} {m : MethodId} {args : Array Value} {below : List Frame} {meth : Method} {c : Code} {H : Heap} {locs : List Loc} {cells slots : Nat} {Q : State → Prop}
variable {cc : ByteArray} {pc : Nat} {ls : Array Slot} {z : mZ} {ca : Nat → ClassId} {D : va_G} {H0 : Heap} {nL L0 S0 : Nat} {lv : mL} {st : List Value} {h : mS} {o : mO}
/-- the goal behind a step that goes on -/
def mNext (p : Program) (l : Launch) (e : Env) (R : Room) (s : State) (m : MethodId) (args : Array Value) (below : List Frame) (meth : Method) (c : Code) (Q : State → Prop) (z : mZ) (ca : Nat → ClassId) (D : va_G) (H0 : Heap) (nL L0 S0 : Nat) (o : mO) : Prop :=
  ∀ (pc' : Nat) (lv' : mL) (st' : List Value) (h' : mS), o = .inl (pc', lv', st', h') → ∀ (H' : Heap) (locs' : List Loc) (ls' : Array Slot) (cells' slots' : Nat), mAt z ca D H0 nL L0 S0 lv' h' H' locs' ls' cells' slots' → W p l e R s m args below meth c H' locs' cells' slots' Q (F0 m pc' ls' (st'.map (sv z)))
theorem mk_nx {pc' : Nat} {lv' : mL} {st' : List Value} {h' : mS} (hs : mnx pc' lv' st' h' = some o) (kn : mNext p l e R s m args below meth c Q z ca D H0 nL L0 S0 o) {H' : Heap} {locs' : List Loc} {ls' : Array Slot} {cells' slots' : Nat} (hA : mAt z ca D H0 nL L0 S0 lv' h' H' locs' ls' cells' slots') : W p l e R s m args below meth c H' locs' cells' slots' Q (F0 m pc' ls' (st'.map (sv z))) := by
  cases hs
  exact kn _ _ _ _ rfl _ _ _ _ _ hA
theorem mk_bin {f : Int32 → Int32 → Int32} (hs : mbin f pc lv st h = some o) (kn : mNext p l e R s m args below meth c Q z ca D H0 nL L0 S0 o) (hA : mAt z ca D H0 nL L0 S0 lv h H locs ls cells slots)
    (row : ∀ (x y : Int32) (rest : List Value), W p l e R s m args below meth c H locs cells slots Q (F0 m (pc + 1) ls (.int (f x y) :: rest)) → W p l e R s m args below meth c H locs cells slots Q (F0 m pc ls (.int y :: .int x :: rest))) : W p l e R s m args below meth c H locs cells slots Q (F0 m pc ls (st.map (sv z))) := by
  unfold mbin at hs
  split at hs
  · exact row _ _ _ (mk_nx hs kn hA)
  · cases hs
theorem mk_div {f : Int32 → Int32 → Int32} (hs : mdiv f pc lv st h = some o) (kn : mNext p l e R s m args below meth c Q z ca D H0 nL L0 S0 o) (hA : mAt z ca D H0 nL L0 S0 lv h H locs ls cells slots)
    (row : ∀ (x y : Int32) (rest : List Value), ¬ y = 0 → W p l e R s m args below meth c H locs cells slots Q (F0 m (pc + 1) ls (.int (f x y) :: rest)) → W p l e R s m args below meth c H locs cells slots Q (F0 m pc ls (.int y :: .int x :: rest))) : W p l e R s m args below meth c H locs cells slots Q (F0 m pc ls (st.map (sv z))) := by
  unfold mdiv at hs
  split at hs
  · split at hs
    · cases hs
    · rename_i hy
      exact row _ _ _ hy (mk_nx hs kn hA)
  · cases hs
theorem mk_un {f : Int32 → Int32} (hs : mun f pc lv st h = some o) (kn : mNext p l e R s m args below meth c Q z ca D H0 nL L0 S0 o) (hA : mAt z ca D H0 nL L0 S0 lv h H locs ls cells slots)
    (row : ∀ (x : Int32) (rest : List Value), W p l e R s m args below meth c H locs cells slots Q (F0 m (pc + 1) ls (.int (f x) :: rest)) → W p l e R s m args below meth c H locs cells slots Q (F0 m pc ls (.int x :: rest))) : W p l e R s m args below meth c H locs cells slots Q (F0 m pc ls (st.map (sv z))) := by
  unfold mun at hs
  split at hs
  · exact row _ _ (mk_nx hs kn hA)
  · cases hs
theorem mk_if {C : Int32 → Prop} [DecidablePred C] {t : Nat} (hs : mif C pc t lv st h = some o) (kn : mNext p l e R s m args below meth c Q z ca D H0 nL L0 S0 o) (hA : mAt z ca D H0 nL L0 S0 lv h H locs ls cells slots)
    (row : ∀ (x : Int32) (rest : List Value), (C x → W p l e R s m args below meth c H locs cells slots Q (F0 m t ls rest)) → (¬ C x → W p l e R s m args below meth c H locs cells slots Q (F0 m (pc + 3) ls rest)) → W p l e R s m args below meth c H locs cells slots Q (F0 m pc ls (.int x :: rest))) : W p l e R s m args below meth c H locs cells slots Q (F0 m pc ls (st.map (sv z))) := by
  unfold mif at hs
  split at hs
  · refine row _ _ (fun hc => ?_) (fun hc => ?_)
    · rw [if_pos hc] at hs
      exact mk_nx hs kn hA
    · rw [if_neg hc] at hs
      exact mk_nx hs kn hA
  · cases hs
theorem mk_if2 {C : Int32 → Int32 → Prop} [∀ x y, Decidable (C x y)] {t : Nat} (hs : mif2 C pc t lv st h = some o) (kn : mNext p l e R s m args below meth c Q z ca D H0 nL L0 S0 o) (hA : mAt z ca D H0 nL L0 S0 lv h H locs ls cells slots)
    (row : ∀ (x y : Int32) (rest : List Value), (C x y → W p l e R s m args below meth c H locs cells slots Q (F0 m t ls rest)) → (¬ C x y → W p l e R s m args below meth c H locs cells slots Q (F0 m (pc + 3) ls rest)) → W p l e R s m args below meth c H locs cells slots Q (F0 m pc ls (.int y :: .int x :: rest))) : W p l e R s m args below meth c H locs cells slots Q (F0 m pc ls (st.map (sv z))) := by
  unfold mif2 at hs
  split at hs
  · refine row _ _ _ (fun hc => ?_) (fun hc => ?_)
    · rw [if_pos hc] at hs
      exact mk_nx hs kn hA
    · rw [if_neg hc] at hs
      exact mk_nx hs kn hA
  · cases hs
theorem mk_ld {ok : Value → Bool} {i n : Nat} (hs : mld ok i n lv st h = some o) (kn : mNext p l e R s m args below meth c Q z ca D H0 nL L0 S0 o) (hA : mAt z ca D H0 nL L0 S0 lv h H locs ls cells slots)
    (row : ∀ (v : Value), ok v = true → ls[i]? = some (.val (sv z v)) → W p l e R s m args below meth c H locs cells slots Q (F0 m n ls (sv z v :: st.map (sv z))) → W p l e R s m args below meth c H locs cells slots Q (F0 m pc ls (st.map (sv z)))) : W p l e R s m args below meth c H locs cells slots Q (F0 m pc ls (st.map (sv z))) := by
  unfold mld at hs
  split at hs
  · rename_i v hv
    cases hk : ok v with
    | true =>
      rw [hk] at hs
      exact row v hk (mget_ls hA.2.2.1 hv) (mk_nx hs kn hA)
    | false => rw [hk] at hs; cases hs
  · cases hs
theorem mk_st {ok : Value → Bool} {i n : Nat} (hs : mst ok nL i n lv st h = some o) (kn : mNext p l e R s m args below meth c Q z ca D H0 nL L0 S0 o) (hA : mAt z ca D H0 nL L0 S0 lv h H locs ls cells slots)
    (row : ∀ (v : Value) (rest : List Value), ok v = true → i < nL → (∀ ls' : Array Slot, lv_has ls' nL ((mput lv i v).map (ml z)) → W p l e R s m args below meth c H locs cells slots Q (F0 m n ls' rest)) → W p l e R s m args below meth c H locs cells slots Q (F0 m pc ls (sv z v :: rest))) : W p l e R s m args below meth c H locs cells slots Q (F0 m pc ls (st.map (sv z))) := by
  unfold mst at hs
  split at hs
  · rename_i v r
    cases hk : (ok v && Nat.blt i nL) with
    | true =>
      rw [hk] at hs
      rw [Bool.and_eq_true] at hk
      exact row v _ hk.1 (Nat.blt_eq.mp hk.2) (fun ls' hl' => mk_nx hs kn ⟨hA.1, hA.2.1, hl', hA.2.2.2⟩)
    | false => rw [hk] at hs; cases hs
  · cases hs
end MS

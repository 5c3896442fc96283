/-! what is checked of the tables, by the kernel -/
def mIn (i : Nat) (w : Cond) : Bool := decide (lw_tbl[i]? = some w) && goodWord w
def mTB : List Cond := lw_tbl.filter goodWord
theorem mIn_mem {i : Nat} {w : Cond} (h : mIn i w = true) : w ∈ mTB := by
  unfold mIn at h
  rw [Bool.and_eq_true, decide_eq_true_eq] at h
  exact List.mem_filter.mpr ⟨List.mem_of_getElem? h.1, h.2⟩
def mNest : List (String × Nat × MethodName) := [("OpenFields", 39, yX8_init), ("OpenFields", 46, yX5_init), ("OpenFields$Reader", 37, yX9_init), ("OpenFields", 53, yX6_init), ("OpenFields", 60, yX0_init), ("OpenFields", 67, yX2_init), ("OpenFields", 94, yX3_init), ("OpenFields", 99, yX1_init), ("OpenFields$ByLaw", 9, yX9_init)]
def mkind (y : Nat) : Nat := match mplc y with | some q => q.2.2.2.2 | none => 2
def mok (own name : String) (pc : Nat) (x : mI) : Bool := match x with
  | (i, len, a, b, c, d) => match i with
    | .getstatic idx => Nat.beq len 3 && mIn d (.fieldLink own idx "java/lang/String" "COMPACT_STRINGS" "Z")
    | .getfield idx => Nat.beq len 3 && (bif Nat.beq a 100 then (bif Nat.beq b 0 then mIn d (.fieldLink own idx "java/lang/String" "value" "[B") else mIn d (.fieldLink own idx "java/lang/String" "coder" "B")) else (match mcl[a]? with
      | some q => Nat.blt b q.2.2 && mIn d (.fieldLink own idx (q.2.1 b).1 (q.2.1 b).2.1 (q.2.1 b).2.2.1)
      | none => false))
    | .putfield idx => Nat.beq len 3 && (match mcl[a]? with
      | some q => Nat.blt b q.2.2 && (mIn d (.fieldLink own idx (q.2.1 b).1 (q.2.1 b).2.1 (q.2.1 b).2.2.1) && ((q.2.1 b).2.2.2 == false || ((q.2.1 b).2.2.2 && (decide (name = "<init>") && decide ((q.2.1 b).1 = own)))))
      | none => false)
    | .new idx => Nat.beq len 3 && (match mcl[a]? with
      | some q => mIn d (.classLink own idx q.1)
      | none => false)
    | .newarray ty => Nat.beq len 2 && ((Nat.beq a 0 && decide (ty = .int)) || (Nat.beq a 1 && decide (ty = .boolean)))
    | .anewarray idx => Nat.beq len 3 && (Nat.blt 1 a && (Nat.blt a 6 && (match mcl[mcOf a]? with
      | some q => mIn d (.classLink own idx q.1)
      | none => false)))
    | .ldc idx => Nat.beq len 2 && (bif Nat.beq a 0 then mIn d (.constant own idx (Int32.ofNat b)) else decide (own = "OpenFields$Reader") && Nat.beq idx 75)
    | .invokevirtual idx => Nat.beq len 3 && (bif Nat.blt a 10 then false else (match mmOf (a - 10) with
      | some M => mIn d (.methodLink own idx M.1) && (Nat.beq b M.2.2.2.2.2.2.1 && (Nat.beq c M.2.2.2.2.2.1 && (Nat.blt c 100 && (Nat.beq (mkind (a - 10)) 0 && decide (M.1.name ≠ "<init>")))))
      | none => false))
    | .invokespecial idx => Nat.beq len 3 && (bif Nat.blt a 10 then Nat.beq a 0 && mIn d (.methodLink own idx Lib.objectInit) else (match mmOf (a - 10) with
      | some M => Nat.beq b M.2.2.2.2.2.2.1 && (Nat.beq (mkind (a - 10)) 0 && decide (M.1.name = "<init>") && (Nat.beq (mcl100 c) M.2.2.2.2.2.1 && (Nat.blt (mcl100 c) 50 && bif Nat.blt c 100 then mIn d (.methodLink own idx M.1) else decide ((own, idx, M.1) ∈ mNest))))
      | none => false))
    | .invokestatic idx => Nat.beq len 3 && (bif Nat.blt a 10 then (Nat.beq a 9 || (Nat.beq a 1 && mIn d (.methodLink own idx Lib.Math.max.name) || (Nat.beq a 2 && mIn d (.methodLink own idx Lib.Math.min.name) || (Nat.beq a 3 && mIn d (.methodLink own idx Lib.Math.abs.name) || Nat.beq a 4 && mIn d (.methodLink own idx arraycopyName))))) else (match mmOf (a - 10) with
      | some M => mIn d (.methodLink own idx M.1) && (Nat.beq b M.2.2.2.2.2.2.1 && Nat.beq (mkind (a - 10)) 1)
      | none => false))
    | .goto off => Nat.beq len 3 && decide ((pc : Int) + off = (a : Int))
    | .ifCond _ off => Nat.beq len 3 && decide ((pc : Int) + off = (a : Int))
    | .if_icmp _ off => Nat.beq len 3 && decide ((pc : Int) + off = (a : Int))
    | .if_acmp _ off => Nat.beq len 3 && decide ((pc : Int) + off = (a : Int))
    | .ifnull off => Nat.beq len 3 && decide ((pc : Int) + off = (a : Int))
    | .ifnonnull off => Nat.beq len 3 && decide ((pc : Int) + off = (a : Int))
    | .lookupswitch _ ps => (ps.toList.zip (ps.toList.drop 1)).all (fun q => decide (q.1.1 < q.2.1))
    | .tableswitch _ _ _ _ => true
    | .aload _ => Nat.beq len 2
    | .iload _ => Nat.beq len 2
    | .astore _ => Nat.beq len 2
    | .istore _ => Nat.beq len 2
    | .bipush _ => Nat.beq len 2
    | .sipush _ => Nat.beq len 3
    | .iinc _ _ => Nat.beq len 3
    | _ => Nat.beq len 1
def mokAt (own name : String) (code : ByteArray) (tab : Nat → Option mI) (pc : Nat) : Bool := match tab pc with
  | none => true
  | some x => decide (decode code pc = .ok (x.1, x.2.1)) && mok own name pc x
def mchkT (own name : String) (code : ByteArray) (tab : Nat → Option mI) (L : Nat) : Bool := (List.range L).all (mokAt own name code tab)
def mchkTr (own name : String) (code : ByteArray) (tab : Nat → Option mI) (a n : Nat) : Bool := (List.range' a n).all (mokAt own name code tab)
theorem mchkTr_at {own name : String} {code : ByteArray} {tab : Nat → Option mI} {a n y : Nat} (h : mchkTr own name code tab a n = true) (h1 : a ≤ y) (h2 : y < a + n) : mokAt own name code tab y = true := List.all_eq_true.mp h y (List.mem_range'_1.mpr ⟨h1, h2⟩)
theorem mokAt_at {own name : String} {code : ByteArray} {t : Nat → Option mI} {pc : Nat} {x : mI} (h : mokAt own name code t pc = true) (hx : t pc = some x) : decode code pc = .ok (x.1, x.2.1) ∧ mok own name pc x = true := by
  unfold mokAt at h
  rw [hx] at h
  simp only [Bool.and_eq_true, decide_eq_true_eq] at h
  exact h
theorem mchkT_at {own name : String} {code : ByteArray} {t : Nat → Option mI} {L : Nat} (h : mchkT own name code (mgd L t) L = true) {pc : Nat} {x : mI} (hx : mgd L t pc = some x) : decode code pc = .ok (x.1, x.2.1) ∧ mok own name pc x = true :=
  mokAt_at (List.all_eq_true.mp h pc (List.mem_range.mpr (mgd_lt hx))) hx
/-- one method: its words stand in the tables, its table is its code's -/
def mchk1 (y : Nat) : Bool := match mmOf y, mplc y with
  | some M, some q => mIn q.1 (.code M.1 M.2.1 M.2.2.1 M.2.2.2.1) && (mIn q.2.1 (.initialized M.1.cls) && ((bif Nat.beq (mkind y) 1 then mIn q.2.2.1 (.static M.1) else mIn q.2.2.1 (.instanceMethod M.1) && (decide (M.1.name = "<init>") || mIn q.2.2.2.1 (.selects M.1.cls M.1 M.1)))
    && (plainName M.1.cls && (decide (M.1.cls ≠ "java/lang/invoke/MethodHandle" ∧ M.1.cls ≠ "java/lang/invoke/VarHandle" ∧ (parseMethodDescriptor M.1.desc).map (fun d => d.parameters.length) = some M.2.2.2.2.2.2.1)
    && (Nat.ble M.2.2.1 41 && ((Nat.beq M.2.2.2.2.2.1 51 || (Nat.beq M.2.2.2.2.2.1 50 && decide (M.1.cls = "java/lang/String") || (Nat.blt M.2.2.2.2.2.1 50 && decide ((mcl[M.2.2.2.2.2.1]?).map (fun q => q.1) = some M.1.cls)))) && ((!(decide (M.1.name = "<init>")) || M.2.2.2.1.isNone) && mchkT M.1.cls M.1.name M.2.1 (mgd M.2.2.2.2.2.2.2 M.2.2.2.2.1) M.2.2.2.2.2.2.2)))))))
  | _, _ => false
def mchkR (a n : Nat) : Bool := (List.range' a n).all mchk1
theorem mchkR_at {a n y : Nat} (h : mchkR a n = true) (h1 : a ≤ y) (h2 : y < a + n) : mchk1 y = true := List.all_eq_true.mp h y (List.mem_range'_1.mpr ⟨h1, h2⟩)

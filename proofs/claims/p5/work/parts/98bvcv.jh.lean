/-! houses: number, beasts and strips on both sides -/
def fFH (ci j : Nat) : Bool := (Nat.beq ci 4 && (Nat.beq j 0 || Nat.beq j 3 || Nat.beq j 7)) || (Nat.beq ci 10 && Nat.beq j 10) || (Nat.beq ci 11 && Nat.beq j 21)
def SH : List Nat := [0, 1, 2, 3, 4, 5, 6, 7, 8, 9, 10, 11, 12, 13, 14, 15, 17, 20, 21, 22, 23, 24, 25, 26, 27, 28, 29, 30, 31, 32, 33, 34, 35, 36, 37, 38, 39, 41, 42, 43, 44, 45, 46, 47, 48, 49, 50, 51, 52, 53, 54, 55, 57, 60, 62, 63, 64, 65, 66, 67, 68, 69, 70, 71, 72, 73, 74, 75, 76, 79, 80, 81, 82, 83, 84, 85, 86, 87, 88, 89, 90, 91, 92, 93, 94, 95, 96, 97, 100, 101, 102, 103, 104, 105, 106, 107, 108, 109, 110, 111, 112, 113, 114, 115, 116, 117, 118, 119, 120, 121, 122, 123, 124, 125, 126, 127, 128, 130, 131, 132, 133, 134, 135, 136, 137, 138, 139, 140, 141, 142, 143, 144, 145, 146, 147, 148, 149, 150, 151, 152, 153, 154, 155, 156, 157, 158, 159, 160, 161, 162, 163, 164, 165, 166, 167, 168]
set_option maxRecDepth 10000 in
theorem fS_H : fSet fFH SH = true := by decide +kernel
/-- what house k is on both sides -/
def hsOk (h : List mC) (qs : List (Option Nat)) (BL OW : List Int32) (S k : Nat) : Prop := ∃ (c : Nat) (hf : List Value) (b : Int32), qs[k]? = some (some c) ∧ h[c]? = some (.inr (4, hf)) ∧ hf[0]? = some (.int (Int32.ofNat k)) ∧ (hf[3]? = some (.int b) ∧ BL[k]? = some b) ∧ hf[7]? = some (.int (Int32.ofNat (cntS OW S (Int32.ofNat k))))
def JHx (h : List mC) (H S : Int32) (qs : List (Option Nat)) (BL OW : List Int32) : Prop := ((∃ f0, h[0]? = some (.inr (10, f0)) ∧ f0[10]? = some (.int H)) ∧ ∃ fM, h[47]? = some (.inr (11, fM)) ∧ fM[21]? = some (.int S)) ∧ (h[1]? = some (.inl (2, .inr qs)) ∧ h[51]? = some (cAr BL) ∧ h[58]? = some (cAr OW)) ∧ ∀ k : Nat, k < 12 → ((k : Int) < H.toInt → hsOk h qs BL OW S.toInt.toNat k) ∧ (H.toInt ≤ k → BL[k]? = some 0 ∧ cntS OW S.toInt.toNat (Int32.ofNat k) = 0)
def JH (h : List mC) : Prop := ∃ (H S : Int32) (qs : List (Option Nat)) (BL OW : List Int32), JHx h H S qs BL OW
theorem hs_fk {h h2 : List mC} (hf : fk fFH h h2) {qs : List (Option Nat)} {BL OW : List Int32} {S k : Nat} (a : hsOk h qs BL OW S k) : hsOk h2 qs BL OW S k := by
  obtain ⟨c, hf0, b, a1, a2, a3, ⟨a4, a5⟩, a6⟩ := a
  obtain ⟨fs', c1, c2⟩ := hf c 4 hf0 a2
  exact ⟨c, fs', b, a1, c1, (c2 0 rfl).trans a3, ⟨(c2 3 rfl).trans a4, a5⟩, (c2 7 rfl).trans a6⟩
theorem jh_fk {h h2 : List mC} (hf : fk fFH h h2) (e1 : h2[1]? = h[1]?) (e51 : h2[51]? = h[51]?) (e58 : h2[58]? = h[58]?) (hJ : JH h) : JH h2 := by
  obtain ⟨H, S, qs, BL, OW, ⟨⟨f0, a1, a2⟩, fM, a3, a4⟩, ⟨b1, b2, b3⟩, c⟩ := hJ
  obtain ⟨f0', d1, d2⟩ := hf 0 10 f0 a1
  obtain ⟨fM', d3, d4⟩ := hf 47 11 fM a3
  exact ⟨H, S, qs, BL, OW, ⟨⟨f0', d1, (d2 10 rfl).trans a2⟩, fM', d3, (d4 21 rfl).trans a4⟩, ⟨e1.trans b1, e51.trans b2, e58.trans b3⟩, fun k hk => ⟨fun q => hs_fk hf ((c k hk).1 q), (c k hk).2⟩⟩
theorem jh_pres {md : List Nat} {y1 y2 : Nat} {as : List Value} (hm : [1, 34, 41].all (fun r => !md.elem r) = true) (s1 : SH.elem y1 = true) (s2 : SH.elem y2 = true) : ∀ (i : Nat) (g : Nat → Int) (ρ : List Nat) (h h1 h2 : mS) (v1 v2 : Int32), Inv i g ρ h → (∀ k r : Nat, ρ00[k]? = some r → r ∉ md → h2.1[k]? = h.1[k]?) → (md.elem 53 = true ∨ RR ρ h.1 h2.1) → mcall 720 y1 (.ref 0 :: as) h = some (some (.int v1), h1) → mcall 720 y2 (.ref 47 :: as) h1 = some (some (.int v2), h2) → JC h.1 → JH h.1 → JH h2.1 := by
  intro i g ρ h h1 h2 v1 v2 hI hf hR c1 c2 _ hJ
  have hfk := (mcall_fk fS_H _ _ _ _ _ _ (elem_mem s1) c1).trans (mcall_fk fS_H _ _ _ _ _ _ (elem_mem s2) c2)
  exact jh_fk hfk (hf 1 1 rfl (nmem hm (by decide))) (hf 51 34 rfl (nmem hm (by decide))) (hf 58 41 rfl (nmem hm (by decide))) hJ
def JP (h : List mC) : Prop := JC h ∧ JH h
theorem jp_of {md : List Nat} {y1 y2 : Nat} {as : List Value} {C C' : Int32 → Int32 → Prop} (a : bothJ JC y1 y2 as C) (hb : bothI md y1 y2 as C') (hm : [1, 34, 41].all (fun r => !md.elem r) = true) (s1 : SH.elem y1 = true) (s2 : SH.elem y2 = true) : bothJ JP y1 y2 as C := bothJ_add2 a hb (jh_pres hm s1 s2)
theorem jp_rain (x y : Int32) : bothJ JP 60 130 [.int x, .int y] (fun v1 v2 => v1 = v2) := jp_of (jc_rain x y) (i_rain x y) rfl rfl rfl
theorem jp_sow (x : Int32) : bothJ JP 62 133 [.int x] (fun _ _ => True) := jp_of (jc_sow x) (i_sow x) rfl rfl rfl
theorem jp_reap (x : Int32) : bothJ JP 63 135 [.int x] (fun _ _ => True) := jp_of (jc_reap x) (i_reap x) rfl rfl rfl
theorem jp_land (x y : Int32) : bothJ JP 65 142 [.int x, .int y] (fun _ _ => True) := jp_of (jc_land x y) (i_land x y) rfl rfl rfl
theorem jp_hold (x y : Int32) : bothJ JP 66 146 [.int x, .int y] (fun _ _ => True) := jp_of (jc_hold x y) (i_hold x y) rfl rfl rfl
theorem jp_hunger (x : Int32) : bothJ JP 67 147 [.int x] (fun _ _ => True) := jp_of (jc_hunger x) (i_hunger x) rfl rfl rfl
theorem jp_feed (x y : Int32) : bothJ JP 68 123 [.int x, .int y] (fun v1 v2 => v1 = v2) := jp_of (jc_feed x y) (i_feed x y) rfl rfl rfl
theorem jp_clear  : bothJ JP 70 125 [] (fun v1 v2 => v1 = v2) := jp_of (jc_clear ) (i_clear ) rfl rfl rfl
theorem jp_law (x y z : Int32) : bothJ JP 71 126 [.int x, .int y, .int z] (fun _ _ => True) := jp_of (jc_law x y z) (i_law x y z) rfl rfl rfl
theorem jp_stray (x y : Int32) : bothJ JP 73 148 [.int x, .int y] (fun _ _ => True) := jp_of (jc_stray x y) (i_stray x y) rfl rfl rfl
theorem jp_book (x y : Int32) : bothJ JP 74 149 [.int x, .int y] (fun _ _ => True) := jp_of (jc_book x y) (i_book x y) rfl rfl rfl
theorem jp_apart (x : Int32) : bothJ JP 75 150 [.int x] (fun v1 v2 => v1 = v2) := jp_of (jc_apart x) (i_apart x) rfl rfl rfl
theorem jp_court  : bothJ JP 76 151 [] (fun _ _ => True) := jp_of (jc_court ) (i_court ) rfl rfl rfl
theorem jp_count (x : Int32) : bothJ JP 80 160 [.int x] (fun _ _ => True) := jp_of (jc_count x) (i_count x) rfl rfl rfl
theorem jp_text (x y : Int32) : bothJ JP 72 127 [.int x, .int y] (fun v1 v2 => v1 = v2) := jp_of (jc_text x y) (i_text x y) rfl rfl rfl
theorem jp_week (x : Int32) : bothJ JP 64 141 [.int x] (fun v1 v2 => v1 = v2) := jp_of (jc_week x) (i_week x) rfl rfl rfl
theorem jp_make (x y : Int32) : bothJ JP 69 124 [.int x, .int y] (fun v1 v2 => v1 = v2) := jp_of (jc_make x y) (i_make x y) rfl rfl rfl

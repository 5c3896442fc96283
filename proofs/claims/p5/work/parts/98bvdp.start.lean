/-! the beginning -/
theorem z32' : (0 : Int32).toInt = 0 := by decide
theorem JN_00 : JN mh0.1 := ⟨_, rfl, fun q hq => by
  match q, hq with
  | 0, _ => exact ⟨1, rfl, by decide⟩
  | 1, _ => exact ⟨1, rfl, by decide⟩
  | 2, _ => exact ⟨1, rfl, by decide⟩
  | q + 3, hq => omega⟩
theorem JH_00 : JH mh0.1 := by
  refine ⟨0, 0, _, _, _, ⟨⟨_, rfl, rfl⟩, _, rfl, rfl⟩, ⟨rfl, rfl, rfl⟩, fun k hk => ⟨fun q => ?_, fun _ => ⟨?_, rfl⟩⟩⟩
  · rw [z32'] at q
    omega
  · match k, hk with
    | 0, _ => rfl
    | 1, _ => rfl
    | 2, _ => rfl
    | 3, _ => rfl
    | 4, _ => rfl
    | 5, _ => rfl
    | 6, _ => rfl
    | 7, _ => rfl
    | 8, _ => rfl
    | 9, _ => rfl
    | 10, _ => rfl
    | 11, _ => rfl
    | k + 12, hk => omega
theorem JS_00 : JS mh0.1 := by
  refine ⟨44, by decide, ⟨_, _, _, _, _, _, rfl⟩, fun t ht hk => ?_⟩
  rcases List.mem_cons.mp ht with rfl | ht
  · exact ⟨1, 1, _, _, rfl, rfl, rfl, rfl, Or.inr ⟨_, rfl, ⟨rfl, by decide⟩, rfl, rfl⟩⟩
  rcases List.mem_cons.mp ht with rfl | ht
  · exact ⟨_, _, _, _, rfl, rfl, rfl, rfl, Or.inl rfl⟩
  rcases List.mem_cons.mp ht with rfl | ht
  · exact ⟨1, 1, _, _, rfl, rfl, rfl, rfl, Or.inr ⟨_, rfl, ⟨rfl, by decide⟩, rfl, rfl⟩⟩
  rcases List.mem_cons.mp ht with rfl | ht
  · exact ⟨_, _, _, _, rfl, rfl, rfl, rfl, Or.inl rfl⟩
  rcases List.mem_cons.mp ht with rfl | ht
  · exact ⟨1, 1, _, _, rfl, rfl, rfl, rfl, Or.inr ⟨_, rfl, ⟨rfl, by decide⟩, rfl, rfl⟩⟩
  rcases List.mem_cons.mp ht with rfl | ht
  · exact ⟨_, _, _, _, rfl, rfl, rfl, rfl, Or.inl rfl⟩
  rcases List.mem_cons.mp ht with rfl | ht
  · exact absurd rfl hk
  cases ht

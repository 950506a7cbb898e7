theorem c_within (d : Nat) (S : gS) (n b : Int32) : gE d 9 [.int n, .int b] S (fun v S' => v = some (.int (if 0 ≤ n ∧ n < b then 1 else 0)) ∧ S' = S) := by
  have hk : gMT[9]? = some gro_9 := rfl
  refine r_in hk [some (.int n), some (.int b)] (Nat.le_of_ble_eq_true rfl) rfl ?_
  repeat refine r_step hk rfl rfl rfl ?_
  refine r_lt (fun h => ?_) (fun h => ?_)
  · repeat refine r_step hk rfl rfl rfl ?_
    refine r_iret hk rfl (Or.inl rfl) ⟨?_, rfl⟩
    sorry
  · repeat refine r_step hk rfl rfl rfl ?_
    refine r_ge (fun h => ?_) (fun h => ?_)
    · repeat refine r_step hk rfl rfl rfl ?_
      refine r_iret hk rfl (Or.inl rfl) ⟨?_, rfl⟩
      sorry
    · repeat refine r_step hk rfl rfl rfl ?_
      refine r_iret hk rfl (Or.inr rfl) ⟨?_, rfl⟩
      sorry
theorem c_hasRoom (d : Nat) (S : gS) (a : Nat) (room lying lost : Int32) (s l : Nat) (h : S.2.2 a = .inr (5, [.int room, .int lying, .int lost, .ref s, .ref l])) : gE d 45 [.ref a] S (fun v S' => v = some (.int (if lying < room then 1 else 0)) ∧ S' = S) := by
  have hk : gMT[45]? = some gro_45 := rfl
  refine r_in hk [some (.ref a)] (Nat.le_of_ble_eq_true rfl) rfl ?_
  repeat refine r_step hk rfl rfl rfl ?_
  refine r_get hk rfl h rfl ?_
  repeat refine r_step hk rfl rfl rfl ?_
  refine r_get hk rfl h rfl ?_
  repeat refine r_step hk rfl rfl rfl ?_
  refine r_ge (fun h => ?_) (fun h => ?_)
  · repeat refine r_step hk rfl rfl rfl ?_
    refine r_iret hk rfl (Or.inl rfl) ⟨?_, rfl⟩
    sorry
  · repeat refine r_step hk rfl rfl rfl ?_
    refine r_iret hk rfl (Or.inr rfl) ⟨?_, rfl⟩
    sorry

/-! ===== the reference: small methods ===== -/
section GM1
variable {w a : Nat → Nat → Int32} {b : Nat → Nat → Int64} {r : Nat → Nat → Nat} {q : Nat → Nat → Option Nat} {y : gH} {n u : Nat}
/-- an answer of 0 or 1 -/
def gbo (c : Prop) (S : gS) : Option Value → gS → Prop := fun v S' => ((c ∧ v = some (.int 1)) ∨ (¬ c ∧ v = some (.int 0))) ∧ S' = S
theorem m_within (d : Nat) (S : gS) (x lo hi : Int32) : gE d 116 [.int x, .int lo, .int hi] S (gbo (¬ x < lo ∧ ¬ hi < x) S) := by
  have hk : gMT[116]? = some gro_116 := rfl
  refine r_in hk [some (.int x), some (.int lo), some (.int hi)] (Nat.le_of_ble_eq_true rfl) rfl ?_
  iterate 3 refine r_step hk rfl rfl rfl ?_
  refine r_lt (fun h2 => ?_) (fun h2 => ?_)
  · refine r_step hk rfl rfl rfl ?_
    refine r_iret hk rfl (Or.inl rfl) ?_
    refine ⟨?_, rfl⟩
    first | exact Or.inl ⟨⟨by assumption, by assumption⟩, rfl⟩ | exact Or.inr ⟨fun h => h.1 (by assumption), rfl⟩ | exact Or.inr ⟨fun h => h.2 (by assumption), rfl⟩
  · iterate 3 refine r_step hk rfl rfl rfl ?_
    refine r_gt (fun h7 => ?_) (fun h7 => ?_)
    · refine r_step hk rfl rfl rfl ?_
      refine r_iret hk rfl (Or.inl rfl) ?_
      refine ⟨?_, rfl⟩
      first | exact Or.inl ⟨⟨by assumption, by assumption⟩, rfl⟩ | exact Or.inr ⟨fun h => h.1 (by assumption), rfl⟩ | exact Or.inr ⟨fun h => h.2 (by assumption), rfl⟩
    · iterate 2 refine r_step hk rfl rfl rfl ?_
      refine r_iret hk rfl (Or.inr rfl) ?_
      refine ⟨?_, rfl⟩
      first | exact Or.inl ⟨⟨by assumption, by assumption⟩, rfl⟩ | exact Or.inr ⟨fun h => h.1 (by assumption), rfl⟩ | exact Or.inr ⟨fun h => h.2 (by assumption), rfl⟩
theorem m_isShop (d : Nat) (S : gS) (x : Int32) : gE d 118 [.int x] S (gbo (¬ x < 0 ∧ ¬ 5 ≤ x) S) := by
  have hk : gMT[118]? = some gro_118 := rfl
  refine r_in hk [some (.int x)] (Nat.le_of_ble_eq_true rfl) rfl ?_
  iterate 2 refine r_step hk rfl rfl rfl ?_
  refine r_lt (fun h1 => ?_) (fun h1 => ?_)
  · refine r_step hk rfl rfl rfl ?_
    refine r_iret hk rfl (Or.inl rfl) ?_
    refine ⟨?_, rfl⟩
    first | exact Or.inl ⟨⟨by assumption, by assumption⟩, rfl⟩ | exact Or.inr ⟨fun h => h.1 (by assumption), rfl⟩ | exact Or.inr ⟨fun h => h.2 (by assumption), rfl⟩
  · iterate 3 refine r_step hk rfl rfl rfl ?_
    refine r_ge (fun h6 => ?_) (fun h6 => ?_)
    · refine r_step hk rfl rfl rfl ?_
      refine r_iret hk rfl (Or.inl rfl) ?_
      refine ⟨?_, rfl⟩
      first | exact Or.inl ⟨⟨by assumption, by assumption⟩, rfl⟩ | exact Or.inr ⟨fun h => h.1 (by assumption), rfl⟩ | exact Or.inr ⟨fun h => h.2 (by assumption), rfl⟩
    · iterate 2 refine r_step hk rfl rfl rfl ?_
      refine r_iret hk rfl (Or.inr rfl) ?_
      refine ⟨?_, rfl⟩
      first | exact Or.inl ⟨⟨by assumption, by assumption⟩, rfl⟩ | exact Or.inr ⟨fun h => h.1 (by assumption), rfl⟩ | exact Or.inr ⟨fun h => h.2 (by assumption), rfl⟩
theorem m_isThing (d : Nat) (x : Int32) : gE d 121 [.ref 44, .int x] (n, u, HP w a b r q y) (gbo (¬ x < 0 ∧ ¬ w 44 25 ≤ x) (n, u, HP w a b r q y)) := by
  have hk : gMT[121]? = some gro_121 := rfl
  refine r_in hk [some (.ref 44), some (.int x)] (Nat.le_of_ble_eq_true rfl) rfl ?_
  iterate 2 refine r_step hk rfl rfl rfl ?_
  refine r_lt (fun h1 => ?_) (fun h1 => ?_)
  · refine r_step hk rfl rfl rfl ?_
    refine r_iret hk rfl (Or.inl rfl) ?_
    refine ⟨?_, rfl⟩
    first | exact Or.inl ⟨⟨by assumption, by assumption⟩, rfl⟩ | exact Or.inr ⟨fun h => h.1 (by assumption), rfl⟩ | exact Or.inr ⟨fun h => h.2 (by assumption), rfl⟩
  · iterate 4 refine r_step hk rfl rfl rfl ?_
    refine r_ge (fun h9 => ?_) (fun h9 => ?_)
    · refine r_step hk rfl rfl rfl ?_
      refine r_iret hk rfl (Or.inl rfl) ?_
      refine ⟨?_, rfl⟩
      first | exact Or.inl ⟨⟨by assumption, by assumption⟩, rfl⟩ | exact Or.inr ⟨fun h => h.1 (by assumption), rfl⟩ | exact Or.inr ⟨fun h => h.2 (by assumption), rfl⟩
    · iterate 2 refine r_step hk rfl rfl rfl ?_
      refine r_iret hk rfl (Or.inr rfl) ?_
      refine ⟨?_, rfl⟩
      first | exact Or.inl ⟨⟨by assumption, by assumption⟩, rfl⟩ | exact Or.inr ⟨fun h => h.1 (by assumption), rfl⟩ | exact Or.inr ⟨fun h => h.2 (by assumption), rfl⟩
theorem m_shelf (d : Nat) (hd : 1 ≤ d) (x z : Int32) : gE d 117 [.ref 44, .int x, .int z] (n, u, HP w a b r q y) (fun v S' => ((∃ s, s < 5 ∧ x = nI s ∧ ¬ z < 0 ∧ ¬ 40 < z ∧ v = some (.int 1) ∧ S' = (n, u, HP (upd2 w 44 0 0) (upd2 a 69 s z) b r q y)) ∨ (¬ ((¬ x < 0 ∧ ¬ 5 ≤ x) ∧ ¬ z < 0 ∧ ¬ 40 < z) ∧ v = some (.int 0) ∧ S' = (n, u, HP (upd2 w 44 0 0) a b r q y)))) := by
  have hk : gMT[117]? = some gro_117 := rfl
  refine r_in hk [some (.ref 44), some (.int x), some (.int z)] (Nat.le_of_ble_eq_true rfl) rfl ?_
  iterate 2 refine r_step hk rfl rfl rfl ?_
  refine r_putI hk rfl rfl rfl rfl ?_
  refine r_step hk rfl rfl rfl ?_
  refine r_callS hk [.int x] [] rfl rfl rfl rfl rfl hd (m_isShop _ _ _) ?_
  rintro _ _ ⟨⟨hs, rfl⟩
  · ⟨hs, rfl⟩, rfl⟩
    refine r_step hk rfl rfl rfl ?_
    refine r_eq (fun h9 => ?_) (fun h9 => ?_)
    · refine r_step hk rfl rfl rfl ?_
      refine r_iret hk rfl (Or.inl rfl) ?_
      sorry
    · iterate 3 refine r_step hk rfl rfl rfl ?_
      refine r_callS hk [.int z, .int 0, .int 40] [] rfl rfl rfl rfl rfl hd (m_within _ _ _ _ _) ?_
      rintro _ _ ⟨⟨hz, rfl⟩
      · ⟨hz, rfl⟩, rfl⟩
        refine r_step hk rfl rfl rfl ?_
        refine r_ne (fun h19 => ?_) (fun h19 => ?_)
        · obtain ⟨s, hs5, hx⟩ := vp_in_of (n := 5) (vp_in_iff.mpr (by sorry)) (by decide)
          sorry
        · refine r_step hk rfl rfl rfl ?_
          refine r_iret hk rfl (Or.inl rfl) ?_
          sorry
      · refine r_step hk rfl rfl rfl ?_
        refine r_ne (fun _ => ?_) (fun h => absurd (by decide) h)
        obtain ⟨s, hs5, hx⟩ := vp_in_of (n := 5) (vp_in_iff.mpr (by sorry)) (by decide)
        sorry
      · refine r_step hk rfl rfl rfl ?_
        refine r_ne (fun h => absurd h (by decide)) (fun _ => ?_)
        refine r_step hk rfl rfl rfl ?_
        refine r_iret hk rfl (Or.inl rfl) ?_
        sorry
  · refine r_step hk rfl rfl rfl ?_
    refine r_eq (fun h => absurd h (by decide)) (fun _ => ?_)
    iterate 3 refine r_step hk rfl rfl rfl ?_
    refine r_callS hk [.int z, .int 0, .int 40] [] rfl rfl rfl rfl rfl hd (m_within _ _ _ _ _) ?_
    rintro _ _ ⟨⟨hz, rfl⟩
    · ⟨hz, rfl⟩, rfl⟩
      refine r_step hk rfl rfl rfl ?_
      refine r_ne (fun h19 => ?_) (fun h19 => ?_)
      · obtain ⟨s, hs5, hx⟩ := vp_in_of (n := 5) (vp_in_iff.mpr (by sorry)) (by decide)
        sorry
      · refine r_step hk rfl rfl rfl ?_
        refine r_iret hk rfl (Or.inl rfl) ?_
        sorry
    · refine r_step hk rfl rfl rfl ?_
      refine r_ne (fun _ => ?_) (fun h => absurd (by decide) h)
      obtain ⟨s, hs5, hx⟩ := vp_in_of (n := 5) (vp_in_iff.mpr (by sorry)) (by decide)
      sorry
    · refine r_step hk rfl rfl rfl ?_
      refine r_ne (fun h => absurd h (by decide)) (fun _ => ?_)
      refine r_step hk rfl rfl rfl ?_
      refine r_iret hk rfl (Or.inl rfl) ?_
      sorry
  · refine r_step hk rfl rfl rfl ?_
    refine r_eq (fun _ => ?_) (fun h => absurd (by decide) h)
    refine r_step hk rfl rfl rfl ?_
    refine r_iret hk rfl (Or.inl rfl) ?_
    sorry
end GM1

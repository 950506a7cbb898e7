-- deps: 37 38 39 43 44 45 50 51
/-! ===== the class: the tape, and tokens ===== -/
theorem sl_l : ∀ j, j < 8 → (((nI (8 * j)).toInt64 &&& 63).toBitVec.smod 64).toNat = 8 * j := by decide +kernel
theorem sl_u : ∀ j, j < 8 → (((nI (8 * j)).toInt64.toUInt64 &&& Int64.toUInt64 63).toBitVec % 64).toNat = 8 * j := by decide +kernel
theorem kby_u (v : Int64) {j : Nat} (hj : j < 8) : ((v.toUInt64 >>> ((nI (8 * j)).toInt64.toUInt64 &&& Int64.toUInt64 63)).toInt64).toInt32 &&& 255 = kby v (8 * j) := by
  refine b_ext (fun i hi => ?_)
  unfold kby
  rw [b_and, b_and, b_255]
  by_cases h8 : i < 8
  · rw [decide_eq_true h8, Bool.and_true, Bool.and_true]
    unfold bt
    rw [Int64.toBitVec_toInt32, Int64.toBitVec_toInt32, BitVec.getLsbD_signExtend, BitVec.getLsbD_signExtend, Int64.toBitVec_shiftRight]
    show (decide (i < 32) && if i < 64 then (v.toUInt64 >>> ((nI (8 * j)).toInt64.toUInt64 &&& Int64.toUInt64 63)).toBitVec.getLsbD i else _) = (decide (i < 32) && if i < 64 then (v.toBitVec.sshiftRight (((nI (8 * j)).toInt64 &&& 63).toBitVec.smod 64).toNat).getLsbD i else _)
    rw [if_pos (by omega), if_pos (by omega), UInt64.toBitVec_shiftRight]
    show (_ && (v.toUInt64.toBitVec >>> (((nI (8 * j)).toInt64.toUInt64 &&& Int64.toUInt64 63).toBitVec % 64).toNat).getLsbD i) = _
    rw [sl_u j hj, sl_l j hj, BitVec.getLsbD_ushiftRight, BitVec.getLsbD_sshiftRight]
    have e1 : decide (64 ≤ i) = false := decide_eq_false (by omega)
    rw [e1, if_pos (by omega)]
    rfl
  · rw [decide_eq_false h8, Bool.and_false, Bool.and_false]
theorem and255 (x : Int32) : ∃ m, m < 256 ∧ x &&& 255 = nI m := by
  refine ⟨(x &&& 255).toBitVec.toNat, ?_, ?_⟩
  · rw [Int32.toBitVec_and, BitVec.toNat_and]
    exact Nat.lt_of_le_of_lt Nat.and_le_right (by decide)
  · refine Int32.toBitVec_inj.mp ?_
    show _ = (Int32.ofNat (x &&& 255).toBitVec.toNat).toBitVec
    rw [Int32.toBitVec_ofNat', BitVec.ofNat_toNat, BitVec.setWidth_eq]
theorem i2c_256 : ∀ m, m < 256 → ((nI m).toUInt32 % 65536).toInt32 = nI m ∧ vp_nar .char (nI m) = nI m := by decide +kernel
section GC9
variable {w a : Nat → Nat → Int32} {b : Nat → Nat → Int64} {r : Nat → Nat → Nat} {q : Nat → Nat → Option Nat} {y : gH} {n u : Nat} {d : Nat}
theorem c_addBytes {len : Nat} (hl : w 20 1 = nI len) (hl6 : len ≤ 600) (v : Int64) : gE d 14 [.ref 20, .long v] (n, u, HP w a b r q y) (fun v' S' => v' = none ∧ ∃ a', gag [21] a a' ∧ a' 21 = (klay v 8 (len, a 21)).2 ∧ S' = (n, u, HP (upd2 w 20 1 (nI (klay v 8 (len, a 21)).1)) a' b r q y)) := by
  have hk : gMT[14]? = some gro_14 := rfl
  refine r_inQ hk [some (.ref 20), some (.long v), none, none, none, none] (Nat.le_of_ble_eq_true rfl) rfl ?_
  intro Q hQ
  have loop : ∀ (j : Nat), j ≤ 8 → ∀ (len1 : Nat) (a1 : Nat → Nat → Int32) (z : Int32) (l4 l5 : Option Value), (gwide l4 = false) → z = nI (8 * j) + -8 → len1 ≤ 600 → gag [21] a a1 → klay v j (len1, a1 21) = klay v 8 (len, a 21) → gX d 14 3 [some (.ref 20), some (.long v), none, some (.int z), l4, l5] [] (n, u, HP (upd2 w 20 1 (nI len1)) a1 b r q y) Q := by
    intro j
    induction j with
    | zero =>
      intro _ len1 a1 z l4 l5 hl4 hz h6 hag hk8
      subst hz
      iterate 2 refine r_step hk rfl rfl rfl ?_
      refine r_lt (fun _ => ?_) (fun hq9 => absurd (show nI (8 * 0) + -8 < 0 by decide) hq9)
      refine r_ret hk rfl rfl ?_
      refine hQ _ _ ⟨rfl, a1, hag, ?_, ?_⟩
      (rw [← hk8]; rfl)
      rw [← hk8]; rfl
    | succ j ih =>
      intro hj len1 a1 z l4 l5 hl4 hz h6 hag hk8
      rw [kdec] at hz
      subst hz
      have h4 : ¬ nI (8 * j) < 0 := nI_pos (by omega)
      have ekb := kby_u v (j := j) (by omega)
      obtain ⟨m, hm, em⟩ := and255 ((v >>> ((nI (8 * j)).toInt64 &&& 63)).toInt32)
      have em2 : kby v (8 * j) = nI m := em
      obtain ⟨ec, ec2⟩ := i2c_256 m hm
      have hnx : ∀ (len2 : Nat) (a2 : Nat → Nat → Int32) (l4 l5 : Option Value), gwide l4 = false → len2 ≤ 600 → gag [21] a a2 → kput (len1, a1 21) (kby v (8 * j)) = (len2, a2 21) → gX d 14 3 [some (.ref 20), some (.long v), none, some (.int (nI (8 * j) + -8)), l4, l5] [] (n, u, HP (upd2 w 20 1 (nI len2)) a2 b r q y) Q := by
        intro len2 a2 l4 l5 hl4 h62 hag2 hp
        refine ih (by omega) len2 a2 _ _ _ hl4 rfl h62 hag2 ?_
        rw [← hk8, ← hp]; rfl
      have h600 : (600 : Int32) ≤ upd2 w 20 1 (nI len1) 20 1 ↔ ¬ len1 < 600 := by
        rw [upd2_same, show (600 : Int32) = nI 600 from rfl, nI_leI (by omega) (by omega)]; omega
      have hno : ¬ ((kby v (8 * j) = 10 ∨ (¬ kby v (8 * j) < 32 ∧ ¬ 126 < kby v (8 * j))) ∧ len1 < 600) → kput (len1, a1 21) (kby v (8 * j)) = (len1, a1 21) := fun h => if_neg h
      have hyes : ((kby v (8 * j) = 10 ∨ (¬ kby v (8 * j) < 32 ∧ ¬ 126 < kby v (8 * j))) ∧ len1 < 600) → kput (len1, a1 21) (kby v (8 * j)) = (len1 + 1, upd2 a1 21 len1 (kby v (8 * j)) 21) := by
        intro h
        rw [gu_row]
        exact if_pos h
      have head : ∀ L5 : Option Value, gX d 14 17 [some (.ref 20), some (.long v), none, some (.int (nI (8 * j))), some (.int (kby v (8 * j))), L5] [] (n, u, HP (upd2 w 20 1 (nI len1)) a1 b r q y) Q := by
        intro L5
        iterate 3 refine r_step hk rfl rfl rfl ?_
        refine r_eq (fun h21 => ?_) (fun h21 => ?_)
        · iterate 5 refine r_step hk rfl rfl rfl ?_
          refine r_eq (fun hq9 => absurd hq9 (by decide)) (fun _ => ?_)
          iterate 4 refine r_step hk rfl rfl rfl ?_
          refine r_ge (fun h57 => ?_) (fun h57 => ?_)
          · iterate 2 refine r_step hk rfl rfl rfl ?_
            first | (refine hnx len1 a1 _ _ rfl h6 hag (hno ?_); exact fun hc => h600.mp h57 hc.2) | (refine hnx len1 a1 _ _ rfl h6 hag (hno ?_); exact fun hc => hc.1.elim h21 (fun z => z.1 h28)) | (refine hnx len1 a1 _ _ rfl h6 hag (hno ?_); exact fun hc => hc.1.elim h21 (fun z => z.2 h35)) | (rw [upd2_2, show upd2 w 20 1 (nI len1) 20 1 + 1 = nI (len1 + 1) by rw [upd2_same]; exact nI_1 _]; refine hnx (len1 + 1) _ _ _ rfl (by have := mt h600.mpr h57; omega) (gag_up hag (by decide)) (hyes ⟨?_, by have := mt h600.mpr h57; omega⟩); first | exact Or.inl h21 | exact Or.inr ⟨h28, h35⟩)
          · iterate 5 refine r_step hk rfl rfl rfl ?_
            refine r_step hk rfl rfl rfl ?_
            rw [em2, ec, ← em2]
            refine r_cs hk len1 rfl rfl rfl (show upd2 w 20 1 (nI len1) 20 1 = nI len1 from upd2_same _ _ _ _) (by have := mt h600.mpr h57; omega) rfl rfl (by rw [em2]; exact ec2) ?_
            iterate 5 refine r_step hk rfl rfl rfl ?_
            refine r_putI hk rfl rfl rfl rfl ?_
            iterate 2 refine r_step hk rfl rfl rfl ?_
            first | (refine hnx len1 a1 _ _ rfl h6 hag (hno ?_); exact fun hc => h600.mp h57 hc.2) | (refine hnx len1 a1 _ _ rfl h6 hag (hno ?_); exact fun hc => hc.1.elim h21 (fun z => z.1 h28)) | (refine hnx len1 a1 _ _ rfl h6 hag (hno ?_); exact fun hc => hc.1.elim h21 (fun z => z.2 h35)) | (rw [upd2_2, show upd2 w 20 1 (nI len1) 20 1 + 1 = nI (len1 + 1) by rw [upd2_same]; exact nI_1 _]; refine hnx (len1 + 1) _ _ _ rfl (by have := mt h600.mpr h57; omega) (gag_up hag (by decide)) (hyes ⟨?_, by have := mt h600.mpr h57; omega⟩); first | exact Or.inl h21 | exact Or.inr ⟨h28, h35⟩)
        · iterate 3 refine r_step hk rfl rfl rfl ?_
          refine r_lt (fun h28 => ?_) (fun h28 => ?_)
          · iterate 4 refine r_step hk rfl rfl rfl ?_
            refine r_eq (fun _ => ?_) (fun hq9 => absurd (by decide) hq9)
            iterate 2 refine r_step hk rfl rfl rfl ?_
            first | (refine hnx len1 a1 _ _ rfl h6 hag (hno ?_); exact fun hc => h600.mp h57 hc.2) | (refine hnx len1 a1 _ _ rfl h6 hag (hno ?_); exact fun hc => hc.1.elim h21 (fun z => z.1 h28)) | (refine hnx len1 a1 _ _ rfl h6 hag (hno ?_); exact fun hc => hc.1.elim h21 (fun z => z.2 h35)) | (rw [upd2_2, show upd2 w 20 1 (nI len1) 20 1 + 1 = nI (len1 + 1) by rw [upd2_same]; exact nI_1 _]; refine hnx (len1 + 1) _ _ _ rfl (by have := mt h600.mpr h57; omega) (gag_up hag (by decide)) (hyes ⟨?_, by have := mt h600.mpr h57; omega⟩); first | exact Or.inl h21 | exact Or.inr ⟨h28, h35⟩)
          · iterate 3 refine r_step hk rfl rfl rfl ?_
            refine r_gt (fun h35 => ?_) (fun h35 => ?_)
            · iterate 4 refine r_step hk rfl rfl rfl ?_
              refine r_eq (fun _ => ?_) (fun hq9 => absurd (by decide) hq9)
              iterate 2 refine r_step hk rfl rfl rfl ?_
              first | (refine hnx len1 a1 _ _ rfl h6 hag (hno ?_); exact fun hc => h600.mp h57 hc.2) | (refine hnx len1 a1 _ _ rfl h6 hag (hno ?_); exact fun hc => hc.1.elim h21 (fun z => z.1 h28)) | (refine hnx len1 a1 _ _ rfl h6 hag (hno ?_); exact fun hc => hc.1.elim h21 (fun z => z.2 h35)) | (rw [upd2_2, show upd2 w 20 1 (nI len1) 20 1 + 1 = nI (len1 + 1) by rw [upd2_same]; exact nI_1 _]; refine hnx (len1 + 1) _ _ _ rfl (by have := mt h600.mpr h57; omega) (gag_up hag (by decide)) (hyes ⟨?_, by have := mt h600.mpr h57; omega⟩); first | exact Or.inl h21 | exact Or.inr ⟨h28, h35⟩)
            · iterate 5 refine r_step hk rfl rfl rfl ?_
              refine r_eq (fun hq9 => absurd hq9 (by decide)) (fun _ => ?_)
              iterate 4 refine r_step hk rfl rfl rfl ?_
              refine r_ge (fun h57 => ?_) (fun h57 => ?_)
              · iterate 2 refine r_step hk rfl rfl rfl ?_
                first | (refine hnx len1 a1 _ _ rfl h6 hag (hno ?_); exact fun hc => h600.mp h57 hc.2) | (refine hnx len1 a1 _ _ rfl h6 hag (hno ?_); exact fun hc => hc.1.elim h21 (fun z => z.1 h28)) | (refine hnx len1 a1 _ _ rfl h6 hag (hno ?_); exact fun hc => hc.1.elim h21 (fun z => z.2 h35)) | (rw [upd2_2, show upd2 w 20 1 (nI len1) 20 1 + 1 = nI (len1 + 1) by rw [upd2_same]; exact nI_1 _]; refine hnx (len1 + 1) _ _ _ rfl (by have := mt h600.mpr h57; omega) (gag_up hag (by decide)) (hyes ⟨?_, by have := mt h600.mpr h57; omega⟩); first | exact Or.inl h21 | exact Or.inr ⟨h28, h35⟩)
              · iterate 5 refine r_step hk rfl rfl rfl ?_
                refine r_step hk rfl rfl rfl ?_
                rw [em2, ec, ← em2]
                refine r_cs hk len1 rfl rfl rfl (show upd2 w 20 1 (nI len1) 20 1 = nI len1 from upd2_same _ _ _ _) (by have := mt h600.mpr h57; omega) rfl rfl (by rw [em2]; exact ec2) ?_
                iterate 5 refine r_step hk rfl rfl rfl ?_
                refine r_putI hk rfl rfl rfl rfl ?_
                iterate 2 refine r_step hk rfl rfl rfl ?_
                first | (refine hnx len1 a1 _ _ rfl h6 hag (hno ?_); exact fun hc => h600.mp h57 hc.2) | (refine hnx len1 a1 _ _ rfl h6 hag (hno ?_); exact fun hc => hc.1.elim h21 (fun z => z.1 h28)) | (refine hnx len1 a1 _ _ rfl h6 hag (hno ?_); exact fun hc => hc.1.elim h21 (fun z => z.2 h35)) | (rw [upd2_2, show upd2 w 20 1 (nI len1) 20 1 + 1 = nI (len1 + 1) by rw [upd2_same]; exact nI_1 _]; refine hnx (len1 + 1) _ _ _ rfl (by have := mt h600.mpr h57; omega) (gag_up hag (by decide)) (hyes ⟨?_, by have := mt h600.mpr h57; omega⟩); first | exact Or.inl h21 | exact Or.inr ⟨h28, h35⟩)
      iterate 2 refine r_step hk rfl rfl rfl ?_
      refine r_lt (fun hq9 => absurd hq9 h4) (fun _ => ?_)
      iterate 6 refine r_step hk rfl rfl rfl ?_
      rw [ekb]
      refine r_step hk rfl rfl rfl ?_
      exact head _
  iterate 2 refine r_step hk rfl rfl rfl ?_
  have hl0 := loop 8 (Nat.le_refl _) len a _ none none rfl rfl hl6 gag_rf rfl
  rw [upd2_id hl] at hl0
  exact hl0
theorem c_feed (hd : 1 ≤ d) {len : Nat} (hl : w 20 1 = nI len) (hl6 : len ≤ 600) (v1 v2 v3 : Int64) : gE d 13 [.ref 0, .long v1, .long v2, .long v3] (n, u, HP w a b r q y) (fun v' S' => v' = some (.int (nI (kfeed v1 v2 v3 (len, a 21)).1)) ∧ ∃ a', gag [21] a a' ∧ a' 21 = (kfeed v1 v2 v3 (len, a 21)).2 ∧ S' = (n, u, HP (upd2 w 20 1 (nI (kfeed v1 v2 v3 (len, a 21)).1)) a' b r q y)) := by
  have hk : gMT[13]? = some gro_13 := rfl
  refine r_inQ hk [some (.ref 0), some (.long v1), none, some (.long v2), none, some (.long v3), none] (Nat.le_of_ble_eq_true rfl) rfl ?_
  intro Q hQ
  have e1 := klay_le v1 8 (len, a 21) hl6
  generalize hs1 : klay v1 8 (len, a 21) = s1 at e1
  have e2 := klay_le v2 8 s1 e1
  generalize hs2 : klay v2 8 s1 = s2 at e2
  iterate 3 refine r_step hk rfl rfl rfl ?_
  refine r_callV hk [.ref 20, .long v1] [] rfl rfl rfl rfl rfl rfl rfl hd (c_addBytes hl hl6 v1) ?_
  rw [hs1]
  rintro _ _ ⟨rfl, a1, hag1, h45, rfl⟩
  have q1 : klay v2 8 (s1.1, a1 21) = s2 := by rw [h45, ← hs2]
  iterate 3 refine r_step hk rfl rfl rfl ?_
  refine r_callV hk [.ref 20, .long v2] [] rfl rfl rfl rfl rfl rfl rfl hd (c_addBytes (w := upd2 w 20 1 (nI s1.1)) (upd2_same _ _ _ _) e1 v2) ?_
  rw [q1, upd2_2]
  rintro _ _ ⟨rfl, a2, hag2, h452, rfl⟩
  have q2 : klay v3 8 (s2.1, a2 21) = kfeed v1 v2 v3 (len, a 21) := by rw [h452]; unfold kfeed; rw [hs1, hs2]
  iterate 3 refine r_step hk rfl rfl rfl ?_
  refine r_callV hk [.ref 20, .long v3] [] rfl rfl rfl rfl rfl rfl rfl hd (c_addBytes (w := upd2 w 20 1 (nI s2.1)) (upd2_same _ _ _ _) e2 v3) ?_
  rw [q2, upd2_2]
  rintro _ _ ⟨rfl, a3, hag3, h453, rfl⟩
  iterate 3 refine r_step hk rfl rfl rfl ?_
  refine r_iret hk rfl trivial ?_
  exact hQ _ _ ⟨rfl, a3, gag_tr (gag_tr hag1 hag2) hag3, h453, rfl⟩
end GC9

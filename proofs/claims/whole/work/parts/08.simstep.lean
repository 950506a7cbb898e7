section GSN
variable {p : Program} {l : Launch} {e : Env} {R : Room} {s : State} {m : MethodId} {args : Array Value} {below : List Frame} {meth : Method} {c : Code} {Q : State → Prop}
variable {cc : ByteArray} {nL : Nat} {own nm : String} {D : va_G} {B : Nat} {ex : Nat → Nat} {H0 : Heap} {n0 u0 : Nat} {pc : Nat} {L : gL} {st r : List Value} {S : gS}
theorem g_len {a b : Nat} (h : (a == b) = true) : a = b := by simpa using h
theorem gs_ldc {idx : Nat} {ax : List Nat} {w : Value} (X : gCx p s m args meth c cc nL own nm D ex) (hd : decode cc pc = .ok (.ldc idx, 2)) (hck : gchkK own idx ax w = true) (hck2 : gisL w = false) (hax : ax ≠ []) (k : gG p l e R s m args below meth c Q nL D B ex H0 n0 u0 (pc + 2) L (w :: st) S) : gG p l e R s m args below meth c Q nL D B ex H0 n0 u0 pc L st S := by
  intro ls H locs cells slots hL hR hl hc hs
  obtain ⟨hx, hb, hml, hown, hts, hnm, hKN⟩ := X
  have kk := k ls H locs cells slots hL hR hl hc hs
  cases ax with
  | nil => exact absurd rfl hax
  | cons ps t => cases t with
    | cons a b => cases hck
    | nil => cases w with
      | int v => exact lv_ldc hx hb hown (hts _ (gtb_good hck (gw_const _ _ _))) hd kk
      | long v => cases hck2
      | ref a =>
        have h5 : own = RX4 ∧ ((idx = 64 ∧ a = 2000000001) ∨ (idx = 52 ∧ a = 2000000002)) := of_decide_eq_true hck
        obtain ⟨rfl, h | h⟩ := h5
        · obtain ⟨rfl, rfl⟩ := h
          exact va_ldcS hx hb hown hKN.2.2.2.1 hd kk
        · obtain ⟨rfl, rfl⟩ := h
          exact va_ldcS hx hb hown hKN.2.2.2.2.1 hd kk
      | float v => cases hck
      | double v => cases hck
      | null => cases hck
      | retAddr v => cases hck
theorem gs_ldcw {idx : Nat} {ax : List Nat} {w : Value} (X : gCx p s m args meth c cc nL own nm D ex) (hd : decode cc pc = .ok (.ldc_w idx, 3)) (hck : gchkK own idx ax w = true) (hck2 : gisI w = true) (hax : ax ≠ []) (k : gG p l e R s m args below meth c Q nL D B ex H0 n0 u0 (pc + 3) L (w :: st) S) : gG p l e R s m args below meth c Q nL D B ex H0 n0 u0 pc L st S := by
  intro ls H locs cells slots hL hR hl hc hs
  obtain ⟨hx, hb, hml, hown, hts, hnm, hKN⟩ := X
  have kk := k ls H locs cells slots hL hR hl hc hs
  cases ax with
  | nil => exact absurd rfl hax
  | cons ps t => cases t with
    | cons a b => cases hck
    | nil => cases w with
      | int v => exact lv_ldcw hx hb hown (hts _ (gtb_good hck (gw_const _ _ _))) hd kk
      | long v => cases hck2
      | ref a => cases hck2
      | float v => cases hck
      | double v => cases hck
      | null => cases hck
      | retAddr v => cases hck
theorem gs_ldc2 {idx : Nat} {ax : List Nat} {w : Value} (X : gCx p s m args meth c cc nL own nm D ex) (hd : decode cc pc = .ok (.ldc2_w idx, 3)) (hck : gchkK own idx ax w = true) (hck2 : gisL w = true) (hax : ax ≠ []) (k : gG p l e R s m args below meth c Q nL D B ex H0 n0 u0 (pc + 3) L (w :: st) S) : gG p l e R s m args below meth c Q nL D B ex H0 n0 u0 pc L st S := by
  intro ls H locs cells slots hL hR hl hc hs
  obtain ⟨hx, hb, hml, hown, hts, hnm, hKN⟩ := X
  have kk := k ls H locs cells slots hL hR hl hc hs
  cases ax with
  | nil => exact absurd rfl hax
  | cons ps t => cases t with
    | cons a b => cases hck
    | nil => cases w with
      | int v => cases hck2
      | long v => exact lv_ldc2 hx hb hown (hts _ (gtb_good hck (gw_constL _ _ _))) hd kk
      | ref a => cases hck2
      | float v => cases hck
      | double v => cases hck
      | null => cases hck
      | retAddr v => cases hck
theorem g_sw {x lo hi : Int} {ax : List Nat} {offs : Array Int} {d : Int} (h1 : (pc : Int) + d = (gax ax 0 : Int)) (h2 : offs.toList.map (fun o => (pc : Int) + o) = ax.tail.map Int.ofNat) (h3 : (offs.size : Int) = hi - lo + 1) :
    (x < lo ∨ hi < x) ∧ gsw x lo hi ax = gax ax 0 ∨ ¬ x < lo ∧ ¬ hi < x ∧ ∃ off, offs[(x - lo).toNat]? = some off ∧ (pc : Int) + off = (gsw x lo hi ax : Int) := by
  by_cases h : x < lo ∨ hi < x
  · exact Or.inl ⟨h, by simp [gsw, h]⟩
  · right
    have hlt : (x - lo).toNat < offs.size := by omega
    refine ⟨fun z => h (Or.inl z), fun z => h (Or.inr z), offs[(x - lo).toNat], by simp [hlt], ?_⟩
    simp only [gsw, h, if_false]
    cases ax with
    | nil =>
      have h4 := congrArg List.length h2
      simp only [List.length_map, Array.length_toList, List.tail_nil, List.length_nil] at h4
      omega
    | cons a t =>
      simp only [List.tail_cons] at h2
      simp only [gax]
      have e1 : (offs.toList.map (fun o => (pc : Int) + o))[(x - lo).toNat]? = some ((pc : Int) + offs[(x - lo).toNat]) := by
        rw [List.getElem?_map]
        simp [hlt]
      rw [h2, List.getElem?_map] at e1
      have key : ∀ (t : List Nat) (n : Nat) (z : Int), Option.map Int.ofNat t[n]? = some z → z = (gax t n : Int) := by
        intro t
        induction t with
        | nil => intro n z h; simp at h
        | cons b t ih =>
          intro n z h
          cases n with
          | zero => simp at h; simp [gax, h]
          | succ n => simp only [List.getElem?_cons_succ] at h; simpa [gax] using ih n z h
      exact key t _ _ e1
set_option maxHeartbeats 4000000 in
theorem gstep_sim {i : Instr} {len : Nat} {ax : List Nat} {w : Value} {o : Nat × gL × List Value × gS} (X : gCx p s m args meth c cc nL own nm D ex) (hst : gstep i len ax w pc L st S = some o) (hd : decode cc pc = .ok (i, len)) (hck : gchk own nm (pc, i, len, ax, w) = true) (hr1 : o.2.2.2.1 ≤ n0 + R.cells) (hr2 : o.2.2.2.2.1 ≤ u0 + R.slots) (k : gG p l e R s m args below meth c Q nL D B ex H0 n0 u0 o.1 o.2.1 o.2.2.1 o.2.2.2) : gG p l e R s m args below meth c Q nL D B ex H0 n0 u0 pc L st S := by
  have X0 := X
  obtain ⟨hx, hb, hml, hown, hts, hnm, hKN⟩ := X0
  cases i
  case iconst n =>
    simp only [gchk, Bool.and_eq_true, decide_eq_true_eq] at hck
    obtain ⟨h1, rfl⟩ := hck
    have h1 := g_len h1
    subst h1
    have ho := gpush_inv hst
    subst ho
    exact fun ls H locs cells slots hL hR hl hc hs => lv_iconst hx hb hd rfl (k ls H locs cells slots hL hR hl hc hs)
  case lconst n =>
    simp only [gchk, Bool.and_eq_true, decide_eq_true_eq] at hck
    obtain ⟨h1, rfl⟩ := hck
    have h1 := g_len h1
    subst h1
    have ho := gpush_inv hst
    subst ho
    exact fun ls H locs cells slots hL hR hl hc hs => lv_lconst hx hb hd rfl (k ls H locs cells slots hL hR hl hc hs)
  case bipush n =>
    simp only [gchk, Bool.and_eq_true, decide_eq_true_eq] at hck
    obtain ⟨h1, rfl⟩ := hck
    have h1 := g_len h1
    subst h1
    have ho := gpush_inv hst
    subst ho
    exact fun ls H locs cells slots hL hR hl hc hs => lv_bipush hx hb hd rfl (k ls H locs cells slots hL hR hl hc hs)
  case sipush n =>
    simp only [gchk, Bool.and_eq_true, decide_eq_true_eq] at hck
    obtain ⟨h1, rfl⟩ := hck
    have h1 := g_len h1
    subst h1
    have ho := gpush_inv hst
    subst ho
    exact fun ls H locs cells slots hL hR hl hc hs => lv_sipush hx hb hd rfl (k ls H locs cells slots hL hR hl hc hs)
  case ldc n =>
    simp only [gchk, Bool.and_eq_true] at hck
    obtain ⟨h1, h2, h3⟩ := hck
    have h1 := g_len h1
    subst h1
    cases ax with
    | nil => cases hst
    | cons a t =>
      have ho := gpush_inv (len := 2) hst
      subst ho
      exact gs_ldc X hd h2 (by simpa using h3) (by simp) k
  case ldc_w n =>
    simp only [gchk, Bool.and_eq_true] at hck
    obtain ⟨h1, h2, h3⟩ := hck
    have h1 := g_len h1
    subst h1
    cases ax with
    | nil => cases hst
    | cons a t =>
      have ho := gpush_inv (len := 3) hst
      subst ho
      exact gs_ldcw X hd h2 h3 (by simp) k
  case ldc2_w n =>
    simp only [gchk, Bool.and_eq_true] at hck
    obtain ⟨h1, h2, h3⟩ := hck
    have h1 := g_len h1
    subst h1
    cases ax with
    | nil => cases hst
    | cons a t =>
      have ho := gpush_inv (len := 3) hst
      subst ho
      exact gs_ldc2 X hd h2 h3 (by simp) k
  case iload_n n =>
    simp only [gchk, Bool.and_eq_true] at hck
    obtain ⟨h1, h2⟩ := hck
    have h1 := g_len h1
    subst h1
    obtain ⟨x, hg, rfl⟩ := giload_inv hst
    exact fun ls H locs cells slots hL hR hl hc hs => lv_iload_n hx hb hd (Nat.eq_of_beq_eq_true h2) (hL.2.2.2 _ _ hg) (k ls H locs cells slots hL hR hl hc hs)
  case lload_n n =>
    simp only [gchk, Bool.and_eq_true] at hck
    obtain ⟨h1, h2⟩ := hck
    have h1 := g_len h1
    subst h1
    obtain ⟨x, hg, rfl⟩ := glload_inv hst
    exact fun ls H locs cells slots hL hR hl hc hs => lv_lload_n hx hb hd (Nat.eq_of_beq_eq_true h2) (hL.2.2.2 _ _ hg) (k ls H locs cells slots hL hR hl hc hs)
  case aload_n n =>
    simp only [gchk, Bool.and_eq_true] at hck
    obtain ⟨h1, h2⟩ := hck
    have h1 := g_len h1
    subst h1
    obtain ⟨x, hg, rfl⟩ := galoadL_inv hst
    exact fun ls H locs cells slots hL hR hl hc hs => lv_aload_n hx hb hd (Nat.eq_of_beq_eq_true h2) (hL.2.2.2 _ _ hg) (k ls H locs cells slots hL hR hl hc hs)
  case iload n =>
    simp only [gchk, Bool.and_eq_true] at hck
    obtain ⟨h1, h2⟩ := hck
    have h1 := g_len h1
    subst h1
    have h2 := Nat.eq_of_beq_eq_true h2
    obtain ⟨x, hg, rfl⟩ := giload_inv hst
    rw [← h2] at hg
    exact fun ls H locs cells slots hL hR hl hc hs => lv_iload hx hb hd (hL.2.2.2 _ _ hg) (k ls H locs cells slots hL hR hl hc hs)
  case lload n =>
    simp only [gchk, Bool.and_eq_true] at hck
    obtain ⟨h1, h2⟩ := hck
    have h1 := g_len h1
    subst h1
    have h2 := Nat.eq_of_beq_eq_true h2
    obtain ⟨x, hg, rfl⟩ := glload_inv hst
    rw [← h2] at hg
    exact fun ls H locs cells slots hL hR hl hc hs => lv_lload hx hb hd (hL.2.2.2 _ _ hg) (k ls H locs cells slots hL hR hl hc hs)
  case aload n =>
    simp only [gchk, Bool.and_eq_true] at hck
    obtain ⟨h1, h2⟩ := hck
    have h1 := g_len h1
    subst h1
    have h2 := Nat.eq_of_beq_eq_true h2
    obtain ⟨x, hg, rfl⟩ := galoadL_inv hst
    rw [← h2] at hg
    exact fun ls H locs cells slots hL hR hl hc hs => lv_aload hx hb hd (hL.2.2.2 _ _ hg) (k ls H locs cells slots hL hR hl hc hs)
  case istore_n n =>
    simp only [gchk, Bool.and_eq_true] at hck
    obtain ⟨h1, h2⟩ := hck
    have h1 := g_len h1
    subst h1
    obtain ⟨x, r, rfl, hok, hlt, rfl⟩ := gistore_inv hst
    exact fun ls H locs cells slots hL hR hl hc hs => lv_istore_n hx hb hd (Nat.eq_of_beq_eq_true h2) (gLR_has hL) (by rw [← hL.2.1]; exact hlt) rfl (fun ls2 hl2 => k ls2 H locs cells slots (gLR_store1 hL hlt hok hl2) hR hl hc hs)
  case astore_n n =>
    simp only [gchk, Bool.and_eq_true] at hck
    obtain ⟨h1, h2⟩ := hck
    have h1 := g_len h1
    subst h1
    obtain ⟨x, r, rfl, hok, hlt, rfl⟩ := gastoreL_inv hst
    exact fun ls H locs cells slots hL hR hl hc hs => lv_astore_n hx hb hd (Nat.eq_of_beq_eq_true h2) (gLR_has hL) (by rw [← hL.2.1]; exact hlt) rfl (fun ls2 hl2 => k ls2 H locs cells slots (gLR_store1 hL hlt hok hl2) hR hl hc hs)
  case lstore_n n =>
    simp only [gchk, Bool.and_eq_true] at hck
    obtain ⟨h1, h2⟩ := hck
    have h1 := g_len h1
    subst h1
    obtain ⟨x, r, rfl, hok, hlt, rfl⟩ := glstore_inv hst
    exact fun ls H locs cells slots hL hR hl hc hs => lv_lstore_n hx hb hd (Nat.eq_of_beq_eq_true h2) (gLR_has hL) (by rw [← hL.2.1]; exact hlt) rfl (fun ls2 hl2 => k ls2 H locs cells slots (gLR_store2 hL hlt hok hl2) hR hl hc hs)
  case istore n =>
    simp only [gchk, Bool.and_eq_true] at hck
    obtain ⟨h1, h2⟩ := hck
    have h1 := g_len h1
    subst h1
    have h2 := Nat.eq_of_beq_eq_true h2
    subst h2
    obtain ⟨x, r, rfl, hok, hlt, rfl⟩ := gistore_inv hst
    exact fun ls H locs cells slots hL hR hl hc hs => lv_istore hx hb hd (gLR_has hL) (by rw [← hL.2.1]; exact hlt) rfl (fun ls2 hl2 => k ls2 H locs cells slots (gLR_store1 hL hlt hok hl2) hR hl hc hs)
  case astore n =>
    simp only [gchk, Bool.and_eq_true] at hck
    obtain ⟨h1, h2⟩ := hck
    have h1 := g_len h1
    subst h1
    have h2 := Nat.eq_of_beq_eq_true h2
    subst h2
    obtain ⟨x, r, rfl, hok, hlt, rfl⟩ := gastoreL_inv hst
    exact fun ls H locs cells slots hL hR hl hc hs => lv_astore hx hb hd (gLR_has hL) (by rw [← hL.2.1]; exact hlt) rfl (fun ls2 hl2 => k ls2 H locs cells slots (gLR_store1 hL hlt hok hl2) hR hl hc hs)
  case lstore n =>
    simp only [gchk, Bool.and_eq_true] at hck
    obtain ⟨h1, h2⟩ := hck
    have h1 := g_len h1
    subst h1
    have h2 := Nat.eq_of_beq_eq_true h2
    subst h2
    obtain ⟨x, r, rfl, hok, hlt, rfl⟩ := glstore_inv hst
    exact fun ls H locs cells slots hL hR hl hc hs => lv_lstore hx hb hd (gLR_has hL) (by rw [← hL.2.1]; exact hlt) rfl (fun ls2 hl2 => k ls2 H locs cells slots (gLR_store2 hL hlt hok hl2) hR hl hc hs)
  case iinc n z =>
    simp only [gchk, Bool.and_eq_true, decide_eq_true_eq] at hck
    obtain ⟨h1, h2, rfl⟩ := hck
    have h1 := g_len h1
    subst h1
    have h2 := Nat.eq_of_beq_eq_true h2
    subst h2
    obtain ⟨x, y, hg, hw, hok, hlt, rfl⟩ := giinc_inv hst
    cases hw
    intro ls H locs cells slots hL hR hl hc hs
    have hm : (gax ax 0, Value.int x) ∈ gpl B ex 0 L := (mem_gpl L 0 _ _).mpr ⟨gax ax 0, .int x, by omega, hg, rfl⟩
    obtain ⟨kq, hkq⟩ := List.getElem?_of_mem hm
    exact lv_iinc hx hb hd (gLR_has hL) hkq rfl (by rw [← hL.2.1]; exact hlt) rfl (fun ls2 hl2 => k ls2 H locs cells slots (gLR_store1 hL hlt hok hl2) hR hl hc hs)
  case iadd =>
    have h1 := g_len hck
    subst h1
    obtain ⟨x, y, r, rfl, rfl⟩ := gii_inv hst
    exact fun ls H locs cells slots hL hR hl hc hs => lv_iadd hx hb hd (k ls H locs cells slots hL hR hl hc hs)
  case isub =>
    have h1 := g_len hck
    subst h1
    obtain ⟨x, y, r, rfl, rfl⟩ := gii_inv hst
    exact fun ls H locs cells slots hL hR hl hc hs => lv_isub hx hb hd (k ls H locs cells slots hL hR hl hc hs)
  case imul =>
    have h1 := g_len hck
    subst h1
    obtain ⟨x, y, r, rfl, rfl⟩ := gii_inv hst
    exact fun ls H locs cells slots hL hR hl hc hs => lv_imul hx hb hd (k ls H locs cells slots hL hR hl hc hs)
  case iand =>
    have h1 := g_len hck
    subst h1
    obtain ⟨x, y, r, rfl, rfl⟩ := gii_inv hst
    exact fun ls H locs cells slots hL hR hl hc hs => lv_iand hx hb hd (k ls H locs cells slots hL hR hl hc hs)
  case ior =>
    have h1 := g_len hck
    subst h1
    obtain ⟨x, y, r, rfl, rfl⟩ := gii_inv hst
    exact fun ls H locs cells slots hL hR hl hc hs => lv_ior hx hb hd (k ls H locs cells slots hL hR hl hc hs)
  case ixor =>
    have h1 := g_len hck
    subst h1
    obtain ⟨x, y, r, rfl, rfl⟩ := gii_inv hst
    exact fun ls H locs cells slots hL hR hl hc hs => lv_ixor hx hb hd (k ls H locs cells slots hL hR hl hc hs)
  case ishl =>
    have h1 := g_len hck
    subst h1
    obtain ⟨x, y, r, rfl, rfl⟩ := gii_inv hst
    exact fun ls H locs cells slots hL hR hl hc hs => lv_ishl hx hb hd (k ls H locs cells slots hL hR hl hc hs)
  case ishr =>
    have h1 := g_len hck
    subst h1
    obtain ⟨x, y, r, rfl, rfl⟩ := gii_inv hst
    exact fun ls H locs cells slots hL hR hl hc hs => lv_ishr hx hb hd (k ls H locs cells slots hL hR hl hc hs)
  case iushr =>
    have h1 := g_len hck
    subst h1
    obtain ⟨x, y, r, rfl, rfl⟩ := gii_inv hst
    exact fun ls H locs cells slots hL hR hl hc hs => lv_iushr hx hb hd rfl (k ls H locs cells slots hL hR hl hc hs)
  case ladd =>
    have h1 := g_len hck
    subst h1
    obtain ⟨x, y, r, rfl, rfl⟩ := gll_inv hst
    exact fun ls H locs cells slots hL hR hl hc hs => lv_ladd hx hb hd (k ls H locs cells slots hL hR hl hc hs)
  case lsub =>
    have h1 := g_len hck
    subst h1
    obtain ⟨x, y, r, rfl, rfl⟩ := gll_inv hst
    exact fun ls H locs cells slots hL hR hl hc hs => lv_lsub hx hb hd (k ls H locs cells slots hL hR hl hc hs)
  case lmul =>
    have h1 := g_len hck
    subst h1
    obtain ⟨x, y, r, rfl, rfl⟩ := gll_inv hst
    exact fun ls H locs cells slots hL hR hl hc hs => lv_lmul hx hb hd (k ls H locs cells slots hL hR hl hc hs)
  case land =>
    have h1 := g_len hck
    subst h1
    obtain ⟨x, y, r, rfl, rfl⟩ := gll_inv hst
    exact fun ls H locs cells slots hL hR hl hc hs => lv_land hx hb hd (k ls H locs cells slots hL hR hl hc hs)
  case lor =>
    have h1 := g_len hck
    subst h1
    obtain ⟨x, y, r, rfl, rfl⟩ := gll_inv hst
    exact fun ls H locs cells slots hL hR hl hc hs => lv_lor hx hb hd (k ls H locs cells slots hL hR hl hc hs)
  case lshl =>
    have h1 := g_len hck
    subst h1
    obtain ⟨x, y, r, rfl, rfl⟩ := gli_inv hst
    exact fun ls H locs cells slots hL hR hl hc hs => lv_lshl hx hb hd rfl (k ls H locs cells slots hL hR hl hc hs)
  case lshr =>
    have h1 := g_len hck
    subst h1
    obtain ⟨x, y, r, rfl, rfl⟩ := gli_inv hst
    exact fun ls H locs cells slots hL hR hl hc hs => lv_lshr hx hb hd rfl (k ls H locs cells slots hL hR hl hc hs)
  case lushr =>
    have h1 := g_len hck
    subst h1
    obtain ⟨x, y, r, rfl, rfl⟩ := gli_inv hst
    exact fun ls H locs cells slots hL hR hl hc hs => lv_lushr hx hb hd rfl (k ls H locs cells slots hL hR hl hc hs)
  case idiv =>
    have h1 := g_len hck
    subst h1
    simp only [gstep] at hst
    split at hst
    · split at hst
      · cases hst
      · rename_i hne
        cases hst
        exact fun ls H locs cells slots hL hR hl hc hs => lv_idiv hx hb hd hne (k ls H locs cells slots hL hR hl hc hs)
    · cases hst
  case irem =>
    have h1 := g_len hck
    subst h1
    simp only [gstep] at hst
    split at hst
    · split at hst
      · cases hst
      · rename_i hne
        cases hst
        exact fun ls H locs cells slots hL hR hl hc hs => lv_irem hx hb hd hne (k ls H locs cells slots hL hR hl hc hs)
    · cases hst
  case ldiv =>
    have h1 := g_len hck
    subst h1
    simp only [gstep] at hst
    split at hst
    · split at hst
      · cases hst
      · rename_i hne
        cases hst
        exact fun ls H locs cells slots hL hR hl hc hs => lv_ldiv hx hb hd hne (k ls H locs cells slots hL hR hl hc hs)
    · cases hst
  case lcmp =>
    have h1 := g_len hck
    subst h1
    simp only [gstep] at hst
    split at hst
    · cases hst
      exact fun ls H locs cells slots hL hR hl hc hs => W.lcmp hx hb hd (k ls H locs cells slots hL hR hl hc hs)
    · cases hst
  case i2l =>
    have h1 := g_len hck
    subst h1
    simp only [gstep] at hst
    split at hst
    · cases hst
      exact fun ls H locs cells slots hL hR hl hc hs => lv_i2l hx hb hd rfl (k ls H locs cells slots hL hR hl hc hs)
    · cases hst
  case l2i =>
    have h1 := g_len hck
    subst h1
    simp only [gstep] at hst
    split at hst
    · cases hst
      exact fun ls H locs cells slots hL hR hl hc hs => lv_l2i hx hb hd rfl (k ls H locs cells slots hL hR hl hc hs)
    · cases hst
  case i2c =>
    have h1 := g_len hck
    subst h1
    simp only [gstep] at hst
    split at hst
    · cases hst
      exact fun ls H locs cells slots hL hR hl hc hs => lv_i2c hx hb hd rfl (k ls H locs cells slots hL hR hl hc hs)
    · cases hst
  case dup =>
    have h1 := g_len hck
    subst h1
    simp only [gstep] at hst
    split at hst
    · cases hst
      exact fun ls H locs cells slots hL hR hl hc hs => lv_dup hx hb hd rfl (k ls H locs cells slots hL hR hl hc hs)
    · cases hst
      exact fun ls H locs cells slots hL hR hl hc hs => lv_dup hx hb hd rfl (k ls H locs cells slots hL hR hl hc hs)
    · cases hst
  case dup2 =>
    have h1 := g_len hck
    subst h1
    simp only [gstep] at hst
    split at hst
    · cases hst
      exact fun ls H locs cells slots hL hR hl hc hs => lv_dup2_11 hx hb hd rfl rfl (k ls H locs cells slots hL hR hl hc hs)
    · cases hst
  case ifCond cn off =>
    simp only [gchk, Bool.and_eq_true, decide_eq_true_eq] at hck
    obtain ⟨h1, h2⟩ := hck
    have h1 := g_len h1
    subst h1
    simp only [gstep] at hst
    split at hst
    · cases hst
      intro ls H locs cells slots hL hR hl hc hs
      have kk := k ls H locs cells slots hL hR hl hc hs
      cases cn
      · exact lv_if_eq hx hb hd h2 (fun hq => by simpa only [gbr, if_pos hq] using kk) (fun hq => by simpa only [gbr, if_neg hq] using kk)
      · exact lv_if_ne hx hb hd h2 (fun hq => by simpa only [gbr, if_pos hq] using kk) (fun hq => by simpa only [gbr, if_neg (not_not_intro hq)] using kk)
      · exact lv_if_lt hx hb hd h2 (fun hq => by simpa only [gbr, if_pos hq] using kk) (fun hq => by simpa only [gbr, if_neg hq] using kk)
      · exact lv_if_ge hx hb hd h2 (fun hq => by simpa only [gbr, if_pos hq] using kk) (fun hq => by simpa only [gbr, if_neg hq] using kk)
      · exact lv_if_gt hx hb hd h2 (fun hq => by simpa only [gbr, if_pos hq] using kk) (fun hq => by simpa only [gbr, if_neg hq] using kk)
      · exact lv_if_le hx hb hd h2 (fun hq => by simpa only [gbr, if_pos hq] using kk) (fun hq => by simpa only [gbr, if_neg hq] using kk)
    · cases hst
  case if_icmp cn off =>
    simp only [gchk, Bool.and_eq_true, decide_eq_true_eq] at hck
    obtain ⟨h1, h2⟩ := hck
    have h1 := g_len h1
    subst h1
    simp only [gstep] at hst
    split at hst
    · cases hst
      intro ls H locs cells slots hL hR hl hc hs
      have kk := k ls H locs cells slots hL hR hl hc hs
      cases cn
      · exact lv_icmp_eq hx hb hd h2 (fun hq => by simpa only [gbr, if_pos hq] using kk) (fun hq => by simpa only [gbr, if_neg hq] using kk)
      · exact lv_icmp_ne hx hb hd h2 (fun hq => by simpa only [gbr, if_pos hq] using kk) (fun hq => by simpa only [gbr, if_neg (not_not_intro hq)] using kk)
      · exact lv_icmp_lt hx hb hd h2 (fun hq => by simpa only [gbr, if_pos hq] using kk) (fun hq => by simpa only [gbr, if_neg hq] using kk)
      · exact lv_icmp_ge hx hb hd h2 (fun hq => by simpa only [gbr, if_pos hq] using kk) (fun hq => by simpa only [gbr, if_neg hq] using kk)
      · exact lv_icmp_gt hx hb hd h2 (fun hq => by simpa only [gbr, if_pos hq] using kk) (fun hq => by simpa only [gbr, if_neg hq] using kk)
      · exact lv_icmp_le hx hb hd h2 (fun hq => by simpa only [gbr, if_pos hq] using kk) (fun hq => by simpa only [gbr, if_neg hq] using kk)
    · cases hst
  case goto off =>
    simp only [gchk, Bool.and_eq_true, decide_eq_true_eq] at hck
    obtain ⟨h1, h2⟩ := hck
    have h1 := g_len h1
    subst h1
    cases hst
    exact fun ls H locs cells slots hL hR hl hc hs => lv_goto hx hb hd h2 (k ls H locs cells slots hL hR hl hc hs)
  case tableswitch d lo hi offs =>
    simp only [gchk, Bool.and_eq_true, decide_eq_true_eq] at hck
    obtain ⟨⟨h1, h2⟩, h3⟩ := hck
    simp only [gstep] at hst
    split at hst
    · rename_i x r
      cases hst
      intro ls H locs cells slots hL hR hl hc hs
      have kk := k ls H locs cells slots hL hR hl hc hs
      rcases g_sw (x := x.toInt) h1 h2 h3 with ⟨ho, he⟩ | ⟨ho1, ho2, off, he1, he2⟩
      · dsimp only at kk
        rw [he] at kk
        exact lv_tableOut hx hb hd ho h1 kk
      · exact lv_tableIn hx hb hd ho1 ho2 he1 he2 kk
    · cases hst
  case getfield idx =>
    simp only [gstep] at hst
    split at hst
    · rename_i ci sl ne ps
      have hc2 : gchkF own nm false idx len [ci, sl, ne, ps] = true := hck
      have h1 : len = 3 := by simp only [gchkF, Bool.and_eq_true] at hc2; exact g_len hc2.1
      subst h1
      obtain ⟨a, r, fs, v, rfl, ha, hv, rfl⟩ := gget_inv hst
      exact gs_get X hd hc2 ha hv k
    · cases hst
  case putfield idx =>
    simp only [gstep] at hst
    split at hst
    · rename_i ci sl ne ps
      have hc2 : gchkF own nm true idx len [ci, sl, ne, ps] = true := hck
      have h1 : len = 3 := by simp only [gchkF, Bool.and_eq_true] at hc2; exact g_len hc2.1
      subst h1
      obtain ⟨v, a, r, fs, rfl, ha, hs2, hf, rfl⟩ := gput_inv hst
      exact gs_put X hd hc2 ha hs2 hf k
    · cases hst
  case new idx =>
    simp only [gstep] at hst
    split at hst
    · rename_i ci ps
      obtain ⟨q, hq, hn, rfl⟩ := gnew_inv hst
      simp only [gchk, hq, Bool.and_eq_true] at hck
      have h1 := g_len hck.1
      subst h1
      exact gs_new X hd hq hck.2 hn hr1 hr2 k
    · cases hst
  case anewarray idx =>
    simp only [gstep] at hst
    split at hst
    · rename_i ci ps
      obtain ⟨n, r, q, rfl, h0, h9, hn, hq, rfl⟩ := gnewq_inv hst
      simp only [gchk, hq, Bool.and_eq_true, decide_eq_true_eq] at hck
      have h1 := g_len hck.1
      subst h1
      exact gs_newq X hd hck.2.1 hck.2.2 h0 h9 hn hr1 hr2 k
    · cases hst
  case newarray t =>
    simp only [gstep, gnewa] at hst
    split at hst
    · rename_i n r
      split at hst
      · cases hst
      · rename_i hcn
        have h0 : ¬ n < 0 := fun z => hcn (Or.inl z)
        have h9 : n.toNatClampNeg ≤ 1000000 := by omega
        have hn : S.1 < 1000000 := by omega
        simp only [gchk, Bool.and_eq_true] at hck
        obtain ⟨h1, h2⟩ := hck
        have h1 := g_len h1
        subst h1
        split at h2
        · split at hst
          · cases hst
            exact gs_newa X hd h2 rfl (fun _ _ h => h) (fun _ => rfl) h0 h9 (by decide) hn hr1 hr2 k
          · cases hst
            exact gs_newa X hd h2 rfl (fun _ _ h => h) (fun _ => rfl) h0 h9 (by decide) hn hr1 hr2 k
          · cases hst
            exact gs_newa X hd h2 rfl (fun _ _ h => h) (fun _ => rfl) h0 h9 (by decide) hn hr1 hr2 k
          · cases hst
            exact gs_newa X hd h2 rfl (fun _ _ h => h) (fun _ => rfl) h0 h9 (by decide) hn hr1 hr2 k
          · cases hst
        · cases h2
    · cases hst
  case iaload =>
    have h1 := g_len hck
    subst h1
    obtain ⟨i, a, r, n, f, rfl, ha, hin, rfl⟩ := giald_inv hst
    exact gs_iald X (Or.inl ⟨rfl, hd⟩) ha hin k
  case caload =>
    have h1 := g_len hck
    subst h1
    obtain ⟨i, a, r, n, f, rfl, ha, hin, rfl⟩ := giald_inv hst
    exact gs_iald X (Or.inr (Or.inl ⟨rfl, hd⟩)) ha hin k
  case baload =>
    have h1 := g_len hck
    subst h1
    obtain ⟨i, a, r, t, n, f, rfl, ht, ha, hin, rfl⟩ := gbald_inv hst
    rcases ht with rfl | rfl
    · exact gs_iald X (Or.inr (Or.inr (Or.inl ⟨rfl, hd⟩))) ha hin k
    · exact gs_iald X (Or.inr (Or.inr (Or.inr ⟨rfl, hd⟩))) ha hin k
  case laload =>
    have h1 := g_len hck
    subst h1
    obtain ⟨i, a, r, n, f, rfl, ha, hin, rfl⟩ := glald_inv hst
    exact gs_lald X hd ha hin k
  case aaload =>
    have h1 := g_len hck
    subst h1
    obtain ⟨i, a, r, C, n, f, rfl, ha, hin, rfl⟩ := gaald_inv hst
    exact gs_aald X hd ha hin k
  case iastore =>
    have h1 := g_len hck
    subst h1
    obtain ⟨x, i, a, r, n, f, rfl, ha, hin, hok, h9, rfl⟩ := giast_inv hst
    exact gs_iast X (Or.inl ⟨rfl, hd⟩) ha h9 hin k
  case castore =>
    have h1 := g_len hck
    subst h1
    obtain ⟨x, i, a, r, n, f, rfl, ha, hin, hok, h9, rfl⟩ := giast_inv hst
    exact gs_iast X (Or.inr (Or.inl ⟨rfl, hd, hok⟩)) ha h9 hin k
  case bastore =>
    have h1 := g_len hck
    subst h1
    obtain ⟨x, i, a, r, n, f, rfl, ha, hin, hok, h9, rfl⟩ := giast_inv hst
    exact gs_iast X (Or.inr (Or.inr ⟨rfl, hd, hok⟩)) ha h9 hin k
  case lastore =>
    have h1 := g_len hck
    subst h1
    obtain ⟨x, i, a, r, n, f, rfl, ha, hin, h9, rfl⟩ := glast_inv hst
    exact gs_last X hd ha h9 hin k
  case aastore =>
    have h1 := g_len hck
    subst h1
    obtain ⟨v, i, a, r, C, n, f, ci, fs, rfl, ha, hv, hC, hin, h9, rfl⟩ := gaast_inv hst
    exact gs_aast X hd ha hv hC h9 hin k
  case arraylength =>
    have h1 := g_len hck
    subst h1
    obtain ⟨a, r, t, n, x, rfl, ha, rfl⟩ := galen_inv hst
    exact gs_alen X hd ha k
  all_goals (have h9 : (none : gO) = some o := hst; cases h9)
end GSN

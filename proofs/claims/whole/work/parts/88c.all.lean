/-! all together: the model -/
def bl (M : j_M) (h : Nat → Int32) : j_M := (fun b j => if b = 41 ∧ j < 7 then h j else M.1 b j, M.2)
section
variable {M : j_M} {h : Nat → Int32} {la : Nat → Int32} {g s o : Int32}
theorem I_ble {j : Nat} (hj : j < 7) : j_I (bl M h) 41 j = h j := if_pos ⟨rfl, hj⟩
theorem I_bln {b j : Nat} (hb : b ≠ 41) : j_I (bl M h) b j = j_I M b j := if_neg (fun q => hb q.1)
theorem bl_self : bl M (j_I M 41) = M := by
  refine Prod.ext ?_ rfl
  funext b j
  show (if b = 41 ∧ j < 7 then j_I M 41 j else j_I M b j) = j_I M b j
  by_cases hb : b = 41 ∧ j < 7
  · rw [if_pos hb, hb.1]
  · rw [if_neg hb]
theorem st_bl {k : Nat} {v : Int32} (hk : k < 7) : j_sI (st (bl M h) la g s o) 41 k v = st (bl M (fun q => if q = k then v else h q)) la g s o := by
  refine Prod.ext ?_ rfl
  funext b j
  show j_I (j_sI (st (bl M h) la g s o) 41 k v) b j = j_I (st (bl M (fun q => if q = k then v else h q)) la g s o) b j
  by_cases h47 : b = 41
  · subst h47
    rw [I_st (by omega) (by omega)]
    by_cases hj : j < 7
    · rw [I_ble hj]
      by_cases e : j = k
      · subst e; rw [I_sIe (by omega), if_pos rfl]
      · rw [I_sIn (by omega), if_neg e, I_st (by omega) (by omega), I_ble hj]
    · rw [I_sIn (by omega), I_st (by omega) (by omega)]
      show (if 41 = 41 ∧ j < 7 then _ else _) = (if 41 = 41 ∧ j < 7 then _ else _)
      rw [if_neg (by omega), if_neg (by omega)]
  · rw [I_sIn (by omega)]
    by_cases h35 : b = 35
    · subst h35
      by_cases h1 : j < 7 ∨ 9 < j
      · rw [I_st35 h1, I_st35 h1, I_bln (by omega), I_bln (by omega)]
      · rcases (show j = 7 ∨ j = 8 ∨ j = 9 by omega) with rfl | rfl | rfl <;> rfl
    · by_cases h40 : b = 40
      · subst h40
        unfold st
        rw [I_lo (by omega), I_ly, I_lo (by omega), I_ly]
        split
        · rfl
        · rw [I_bln (by omega), I_bln (by omega)]
      · rw [I_st h35 h40, I_st h35 h40, I_bln h47, I_bln h47]
theorem iM.bl {be : Nat → Nat} (hi : iM M 36 0 be) : iM (bl M h) 36 0 be := hi.to (fun k => I_bln (by omega))
/-- codes -/
def ec (f : Nat → Nat) : Nat → Nat
  | 0 => 0
  | p + 1 => 4 * ec f p + f p
theorem ec_congr {f g : Nat → Nat} {p : Nat} (hh : ∀ q, q < p → f q = g q) : ec f p = ec g p := by
  induction p with
  | zero => rfl
  | succ p ih => simp only [ec]; rw [ih (fun q hq => hh q (by omega)), hh p (by omega)]
theorem ec_lt {f : Nat → Nat} {p : Nat} (hf : ∀ q, q < p → f q < 4) : ec f p < 4 ^ p := by
  induction p with
  | zero => exact Nat.one_pos
  | succ p ih =>
    have h1 := ih (fun q hq => hf q (by omega))
    have h2 := hf p (by omega)
    simp only [ec]
    rw [Nat.pow_succ]
    omega
theorem ec_div {f : Nat → Nat} {p k : Nat} (hf : ∀ q, q < p + k → f q < 4) : ec f (p + k) / 4 ^ k = ec f p := by
  induction k with
  | zero => simp
  | succ k ih =>
    have h1 := ih (fun q hq => hf q (by omega))
    have h2 := hf (p + k) (by omega)
    rw [Nat.pow_succ, Nat.mul_comm, ← Nat.div_div_eq_div_mul, ← Nat.add_assoc]
    show (4 * ec f (p + k) + f (p + k)) / 4 / 4 ^ k = _
    rw [show (4 * ec f (p + k) + f (p + k)) / 4 = ec f (p + k) by omega]
    exact h1
theorem ec_dig {f : Nat → Nat} {n q : Nat} (hq : q < n) (hf : ∀ q, q < n → f q < 4) : ec f n / 4 ^ (n - 1 - q) % 4 = f q := by
  have h1 := ec_div (f := f) (p := q + 1) (k := n - 1 - q) (fun r hr => hf r (by omega))
  rw [show q + 1 + (n - 1 - q) = n by omega] at h1
  rw [h1]
  show (4 * ec f q + f q) % 4 = f q
  have := hf q hq
  omega
theorem smod2_k : ∀ k, k < 16 → ((nI k &&& 31).toBitVec.smod 32).toNat = k := by decide +kernel
theorem shl4_k : ∀ n, n < 8 → (1 : Int32) <<< (nI (2 * n) &&& 31) = nI (4 ^ n) := by decide +kernel
theorem pow42 (k : Nat) : 2 ^ (2 * k) = 4 ^ k := by rw [Nat.pow_mul]
theorem e_layLies {be f : Nat → Nat} (hi : iM M 36 0 be) (w : wf be) (hf : ∀ q, q < be 0 → f q < 4) : ∃ la', f_X10_layLies (st M la g s o) (nI (ec f (be 0))) = some (fl (al (be 0) (fun q => op be (f q))), st M la' g s o) ∧ ∀ q, q < be 0 → la' q = nI (f q) := by
  have h7 := w.1
  have hlt := ec_lt hf
  have h47 : 4 ^ be 0 ≤ 4 ^ 7 := Nat.pow_le_pow_right (by decide) h7
  have key : ∀ d p la fuel K, p + d = be 0 → d < fuel → (∀ q, q < p → la q = nI (f q)) → ∃ la', f_X10_layLies_L4 fuel (st M la g s o) (nI (ec f (be 0))) (fl (al p (fun q => op be (f q)))) (nI p) K = K (fl (al (be 0) (fun q => op be (f q)))) (nI (be 0)) (st M la' g s o) ∧ ∀ q, q < be 0 → la' q = nI (f q) := by
    intro d
    induction d with
    | zero =>
      intro p la fuel K h1 h2 h3
      obtain ⟨fuel, rfl⟩ : ∃ f, fuel = f + 1 := ⟨fuel - 1, by omega⟩
      refine ⟨la, ?_, fun q hq => h3 q (by omega)⟩
      rw [f_X10_layLies_L4, E_many hi, Option.bind_some, if_pos (nI_le (by omega) (by omega)), show p = be 0 by omega]
    | succ d ih =>
      intro p la fuel K h1 h2 h3
      obtain ⟨fuel, rfl⟩ : ∃ f, fuel = f + 1 := ⟨fuel - 1, by omega⟩
      have hp : p < be 0 := by omega
      have hfp := hf p hp
      obtain ⟨la', e1, e2⟩ := ih (p + 1) (fun q => if q = p then nI (f p) else la q) fuel K (by omega) (by omega) (fun q hq => by
        by_cases e : q = p
        · subst e; rw [if_pos rfl]
        · rw [if_neg e]; exact h3 q (by omega))
      refine ⟨la', ?_, e2⟩
      have hsh : (nI (ec f (be 0)) >>> (((2 : Int32) * ((nI (be 0) - (1 : Int32)) - nI p)) &&& 31)) &&& (3 : Int32) = nI (f p) := by
        rw [i_1, pk_sub (show 1 ≤ be 0 by omega), pk_sub (show p ≤ be 0 - 1 by omega), i_2, pk_mul, pk_shrN (by omega) _ (2 * (be 0 - 1 - p)) (smod2_k _ (by omega)), pow42]
        have : ec f (be 0) / 4 ^ (be 0 - 1 - p) ≤ ec f (be 0) := Nat.div_le_self _ _
        rw [pk_andN (by omega) 2 rfl]
        congr 1
        exact ec_dig hp hf
      rw [show al (p + 1) (fun q => op be (f q)) = (al p (fun q => op be (f q)) && op be (f p)) from rfl] at e1
      rw [f_X10_layLies_L4, E_many hi, Option.bind_some, if_neg (nI_ge (by omega) (by omega)), Option.bind_some, hsh, w_iN (by omega) (by omega), st_set (by omega), nI_1]
      cases ha : al p (fun q => op be (f q)) with
      | false =>
        rw [ha] at e1
        rw [if_pos (show fl false = 0 from rfl)]
        exact e1
      | true =>
        rw [ha, Bool.true_and] at e1
        rw [if_neg (by decide), a_iN (by omega) (by omega), I_st40 (by omega), if_pos rfl, st_open hi w hfp, Option.bind_some]
        cases ho : op be (f p) with
        | false =>
          rw [ho] at e1
          rw [if_pos (show (if false = true then (1 : Int32) else 0) = 0 by decide)]
          exact e1
        | true =>
          rw [ho] at e1
          rw [if_pos rfl, if_neg (by decide)]
          exact e1
  unfold f_X10_layLies
  have hj : 100000 < j_fu := by unfold j_fu; omega
  revert hj
  generalize j_fu = fu
  intro hj
  obtain ⟨la', e1, e2⟩ := key (be 0) 0 la fu (fun (y15 : Int32) (y16 : Int32) (M17 : j_M) => (z_b y15 (some (y15, M17)))) (by omega) (by omega) (fun q hq => by omega)
  refine ⟨la', ?_, e2⟩
  rw [zb_fl] at e1
  exact e1
theorem e_sumAll {be f : Nat → Nat} (hi : iM M 36 0 be) (w : wf be) (hf : ∀ q, q < be 0 → f q < 4) (hla : ∀ q, q < be 0 → la q = nI (f q)) : ∃ g' s' o', f_X10_sumAll (st M la g s o) = some (nI (tT2 be (be 0) f), st M la g' s' o') := by
  have h7 := w.1
  have hla' : ∀ q, q < be 0 → la q = nI ((fun k => f (k - 1)) (1 + q)) ∧ (fun k => f (k - 1)) (1 + q) < 2 ^ 31 := fun q hq => by
    have := hf q hq
    show la q = nI (f (1 + q - 1)) ∧ f (1 + q - 1) < 2 ^ 31
    rw [show 1 + q - 1 = q by omega]
    exact ⟨hla q hq, by omega⟩
  have key : ∀ d p fuel g s o K, p + d = be 0 → d < fuel → ∃ g' s' o', f_X10_sumAll_L4 fuel (st M la g s o) (nI (sm p (fun q => TK be q (fun r => gr (be 0) f (f q) r && !(r == q))))) (nI p) K = K (nI (tT2 be (be 0) f)) (nI (be 0)) (st M la g' s' o') := by
    intro d
    induction d with
    | zero =>
      intro p fuel g s o K h1 h2
      obtain ⟨fuel, rfl⟩ : ∃ f, fuel = f + 1 := ⟨fuel - 1, by omega⟩
      refine ⟨g, s, o, ?_⟩
      rw [f_X10_sumAll_L4, E_many hi, Option.bind_some, if_pos (nI_le (by omega) (by omega)), show p = be 0 by omega]
      rfl
    | succ d ih =>
      intro p fuel g s o K h1 h2
      obtain ⟨fuel, rfl⟩ : ∃ f, fuel = f + 1 := ⟨fuel - 1, by omega⟩
      have hp : p < be 0 := by omega
      have htk : TK be p (oL la p (la p)) = TK be p (fun r => gr (be 0) f (f p) r && !(r == p)) := TK_congr (fun r hr => by
        unfold oL gr
        rw [hla r hr, hla p hp]
        have h1 := hf r hr
        have h2 := hf p hp
        have : (nI (f r) = nI (f p)) ↔ f r = f p := nI_eq (by omega) (by omega)
        simp [this, hr])
      obtain ⟨g', s', o', e⟩ := ih (p + 1) fuel (nI (gp (be 0) (fun p => be (37 + p)) (oL la p (la p)))) (nI (sl (be 0) (fun p => be (37 + p)) p (oL la p (la p)))) (nI (ct (be 0) (oL la p (la p)))) K (by omega) (by omega)
      refine ⟨g', s', o', ?_⟩
      rw [f_X10_sumAll_L4, E_many hi, Option.bind_some, if_neg (nI_ge (by omega) (by omega)), a_iN (by omega) (by omega), I_st40 (by omega), E_sec hi w hp, htk, Option.bind_some, j_ckE (by rfl), nI_add, nI_1]
      exact e
  unfold f_X10_sumAll
  have hj : 100000 < j_fu := by unfold j_fu; omega
  revert hj
  generalize j_fu = fu
  intro hj
  obtain ⟨g', s', o', e⟩ := key (be 0) 0 fu g s o (fun (y10 : Int32) (y11 : Int32) (M12 : j_M) => (some (y10, M12))) (by omega) (by omega)
  exact ⟨g', s', o', e⟩
theorem e_all64 {be : Nat → Nat} {x1 x3 : Int32} {F v : Nat} (hi : iM M 36 0 be) (w : wf be) (hF : F ≤ 1000000) (hv : v ≤ 1000000) (fuel : Nat) (hfu : 100 < fuel) (K : Int32 → j_M → Option (Int32 × j_M)) : ∃ h' y, f_X10_all_L64 fuel (st (bl M h) la g s o) x1 (nI F) x3 (nI v) (0 : Int32) K = K y (st (bl M h') la g s o) ∧ ∀ q, q < be 0 → h' q = if v < F then la q else h q := by
  have h7 := w.1
  by_cases c : v < F
  · have key : ∀ d p h fuel K, p + d = be 0 → d < fuel → (∀ q, q < p → h q = la q) → ∃ h' y, f_X10_all_L64 fuel (st (bl M h) la g s o) x1 (nI F) x3 (nI v) (nI p) K = K y (st (bl M h') la g s o) ∧ ∀ q, q < be 0 → h' q = la q := by
      intro d
      induction d with
      | zero =>
        intro p h fuel K h1 h2 h3
        obtain ⟨fuel, rfl⟩ : ∃ f, fuel = f + 1 := ⟨fuel - 1, by omega⟩
        refine ⟨h, nI p, ?_, fun q hq => h3 q (by omega)⟩
        rw [f_X10_all_L64, E_many hi.bl, Option.bind_some, if_pos (nI_le (by omega) (by omega))]
      | succ d ih =>
        intro p h fuel K h1 h2 h3
        obtain ⟨fuel, rfl⟩ : ∃ f, fuel = f + 1 := ⟨fuel - 1, by omega⟩
        obtain ⟨h', y, e1, e2⟩ := ih (p + 1) (fun q => if q = p then la p else h q) fuel K (by omega) (by omega) (fun q hq => by
          by_cases e : q = p
          · subst e; rw [if_pos rfl]
          · rw [if_neg e]; exact h3 q (by omega))
        refine ⟨h', y, ?_, e2⟩
        rw [f_X10_all_L64, E_many hi.bl, Option.bind_some, if_neg (nI_ge (by omega) (by omega)), if_neg (nI_ge c (by omega)), a_iN (by omega) (by omega), I_st40 (by omega), w_iN (by omega) (by omega), st_bl (by omega), nI_1]
        exact e1
    obtain ⟨h', y, e1, e2⟩ := key (be 0) 0 h fuel K (by omega) (by omega) (fun q hq => by omega)
    exact ⟨h', y, e1, fun q hq => by rw [if_pos c]; exact e2 q hq⟩
  · obtain ⟨f, rfl⟩ : ∃ f, fuel = f + 1 := ⟨fuel - 1, by omega⟩
    refine ⟨h, 0, ?_, fun q hq => by rw [if_neg c]⟩
    rw [f_X10_all_L64, E_many hi.bl, Option.bind_some]
    by_cases c0 : nI (be 0) ≤ 0
    · rw [if_pos c0]
    · rw [if_neg c0, if_pos (nI_le (by omega) (by omega))]
end

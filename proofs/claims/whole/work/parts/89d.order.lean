/-! orders: the op -/
theorem fst1_eq {m i : Nat} {c : Nat → Bool} (hi : i < m) (h : c i = true) (h2 : ∀ j, j < i → ¬ c j = true) : fst1 m c = some i := by
  obtain ⟨k, hk⟩ := fst1_ex hi h
  obtain ⟨k1, k2, k3⟩ := fst1_some hk
  rcases Nat.lt_trichotomy i k with e | e | e
  · exact absurd h (k3 i e)
  · rw [e]; exact hk
  · exact absurd k2 (h2 k e)
theorem sm_nth {n0 : Nat} {L : Nat → Bool} {h : Nat → Nat} : ∀ b, b ≤ n0 → sm (ct b L) (fun j => h (nth n0 L j)) = sm b (fun q => if L q then h q else 0) := by
  intro b
  induction b with
  | zero => intro _; rfl
  | succ b ih =>
    intro hb
    have ih' := ih (by omega)
    simp only [sm]
    rw [ct_s]
    by_cases c : L b = true
    · rw [if_pos c, if_pos c]
      show sm (ct b L) _ + h (nth n0 L (ct b L)) = _
      rw [ih', nth_ct (by omega) c]
    · rw [if_neg c, if_neg c, Nat.add_zero, Nat.add_zero]
      exact ih'
theorem wW_le {n0 : Nat} {pi : Nat → Nat} {g n : Nat} : ∀ d x L, ct n0 L = d → wW n0 pi g n d x L ≤ fa d := by
  intro d
  induction d with
  | zero => intro x L _; exact Nat.le_refl _
  | succ d ih =>
    intro x L hc
    have h1 : wW n0 pi g n (d + 1) x L ≤ sm n0 (fun b => (if L b then 1 else 0) * fa d) := sm_mono (fun b hb => by
      by_cases c : L b = true
      · have := ct_ex hb c
        have h2 := ih (pi b) (ex L b) (by omega)
        rw [c, if_pos rfl, Nat.one_mul]
        split <;> omega
      · rw [if_neg (by simp [c]), if_neg c]; omega)
    rw [sm_mul] at h1
    have h3 : sm n0 (fun b => if L b then 1 else 0) = d + 1 := hc
    rw [h3] at h1
    exact h1
def Oq (M0 N : j_M) : Prop := (∀ a k, a ≠ 43 → a ≠ 44 → j_I N a k = j_I M0 a k) ∧ N.2 = M0.2
section
variable {M0 : j_M} {n0 : Nat} {P : Nat → Bool} {ki pi : Nat → Nat} {g n : Nat} {x4 : Int32}
theorem e_order109 {N : j_M} {R : Nat → Nat} {m well : Nat} {b : Bool} {x2 x3 x5 x7 : Int32} (hm : m ≤ 7) (h14 : j_I N 35 14 = nI m) (hR : ∀ j, j < m → j_I N 43 j = nI (R j)) (hw : well < 2 ^ 31) (fuel : Nat) (hfu : 100 < fuel) (K : Int32 → j_M → Option (Int32 × j_M)) : ∃ N' y, f_X10_order_L109 fuel N x2 x3 x4 x5 (nI well) x7 (fl b) (0 : Int32) K = K y N' ∧ (∀ a k, a ≠ 44 → j_I N' a k = j_I N a k) ∧ N'.2 = N.2 ∧ (∀ j, j < m → j_I N' 44 j = if b = true ∧ well = 0 then nI (R j) else j_I N 44 j) := by
  by_cases c : b = true ∧ well = 0
  · obtain ⟨rfl, rfl⟩ := c
    have key : ∀ d k N fuel K, k + d = m → d < fuel → j_I N 35 14 = nI m → (∀ j, j < m → j_I N 43 j = nI (R j)) → (∀ j, j < k → j_I N 44 j = nI (R j)) → ∃ N' y, f_X10_order_L109 fuel N x2 x3 x4 x5 (nI 0) x7 (fl true) (nI k) K = K y N' ∧ (∀ a k, a ≠ 44 → j_I N' a k = j_I N a k) ∧ N'.2 = N.2 ∧ (∀ j, j < m → j_I N' 44 j = nI (R j)) := by
      intro d
      induction d with
      | zero =>
        intro k N fuel K h1 h2 h3 h4 h5
        obtain ⟨fuel, rfl⟩ : ∃ f, fuel = f + 1 := ⟨fuel - 1, by omega⟩
        refine ⟨N, nI k, ?_, fun _ _ _ => rfl, rfl, fun j hj => h5 j (by omega)⟩
        rw [f_X10_order_L109, h3, if_pos (nI_le (by omega) (by omega))]
      | succ d ih =>
        intro k N fuel K h1 h2 h3 h4 h5
        obtain ⟨fuel, rfl⟩ : ∃ f, fuel = f + 1 := ⟨fuel - 1, by omega⟩
        obtain ⟨N', y, e1, e2, e3, e4⟩ := ih (k + 1) (j_sI N 44 k (nI (R k))) fuel K (by omega) (by omega) (by rw [I_sIn (by omega)]; exact h3) (fun j hj => by rw [I_sIn (by omega)]; exact h4 j hj) (fun j hj => by
          by_cases e : j = k
          · rw [I_sIe (by omega), e]
          · rw [I_sIn (by omega)]; exact h5 j (by omega))
        refine ⟨N', y, ?_, fun a k' ha => by rw [e2 a k' ha, I_sIn (by omega)], e3, e4⟩
        rw [f_X10_order_L109, h3, if_neg (nI_ge (by omega) (by omega)), if_neg (by decide), if_pos (show nI 0 = 0 from rfl), a_iN (by omega) (by omega), h4 k (by omega), w_iN (by omega) (by omega), nI_1]
        exact e1
    obtain ⟨N', y, e1, e2, e3, e4⟩ := key m 0 N fuel K (by omega) (by omega) h14 hR (fun j hj => by omega)
    exact ⟨N', y, e1, e2, e3, fun j hj => by rw [if_pos ⟨rfl, rfl⟩]; exact e4 j hj⟩
  · obtain ⟨fuel, rfl⟩ : ∃ f, fuel = f + 1 := ⟨fuel - 1, by omega⟩
    refine ⟨N, nI 0, ?_, fun _ _ _ => rfl, rfl, fun j hj => by rw [if_neg c]⟩
    rw [f_X10_order_L109, h14]
    by_cases c0 : nI m ≤ 0
    · rw [if_pos c0]; rfl
    · rw [if_neg c0]
      cases b with
      | false => rw [if_pos (show fl false = 0 from rfl)]; rfl
      | true =>
        rw [if_neg (show ¬ fl true = 0 by decide), if_neg (nI_ne0 (by have : ¬ well = 0 := fun e => c ⟨rfl, e⟩; omega) hw)]; rfl
def xk (n0 : Nat) (P : Nat → Bool) (pi : Nat → Nat) (dg : Nat → Nat) (k : Nat) : Nat := if k = 0 then 0 else pi (rb n0 P dg (k - 1))
theorem e_block (hmK : mK M0 n0 ki pi) (hm : ct n0 P ≤ 7) (h14 : j_I M0 35 14 = nI (ct n0 P)) (h42 : ∀ j, j < ct n0 P → j_I M0 42 j = nI (nth n0 P j)) (hg : g ≤ 60) (hn : n ≤ 9) : ∀ d k (dg : Nat → Nat) well (B : Nat → Nat) N fuel K, k + d = ct n0 P → (∀ i, i < k → dg i < ct n0 P - i) → well ≤ bs (ct n0 P) dg k → Oq M0 N → (well ≠ 0 → ∀ j, j < ct n0 P → j_I N 44 j = nI (B j)) → ∃ N', f_X10_order_L83 (fuel + fa d) N (nI g) (nI n) x4 (nI (fa (ct n0 P))) (nI well) (nI (bs (ct n0 P) dg k)) K = f_X10_order_L83 fuel N' (nI g) (nI n) x4 (nI (fa (ct n0 P))) (nI (well + if al (k - 1) (wlR pi g n (rb n0 P dg)) then wW n0 pi g n d (xk n0 P pi dg k) (Ls n0 P dg k) else 0)) (nI (bs (ct n0 P) dg k + fa d)) K ∧ Oq M0 N' ∧ (well ≠ 0 → ∀ j, j < ct n0 P → j_I N' 44 j = nI (B j)) ∧ (well = 0 → al (k - 1) (wlR pi g n (rb n0 P dg)) = true → 0 < wW n0 pi g n d (xk n0 P pi dg k) (Ls n0 P dg k) → ∀ j, j < ct n0 P → j_I N' 44 j = nI (if j < k then rb n0 P dg j else gsq n0 pi g n d (xk n0 P pi dg k) (Ls n0 P dg k) (j - k))) := by
  have h7 := hmK.2.1
  intro d
  induction d with
  | zero =>
    intro k dg well B N fuel K h1 hd hwl hO hB
    have hk : k = ct n0 P := by omega
    subst hk
    have hfl := fa_le (ct n0 P) hm
    have hcode : bs (ct n0 P) dg (ct n0 P) = tcd (ct n0 P) dg (ct n0 P) := by
      have := bs_tcd (m := ct n0 P) (dg := dg) (ct n0 P) (Nat.le_refl _)
      rw [Nat.sub_self] at this
      exact this
    have hlt := tcd_lt hd (ct n0 P) (Nat.le_refl _)
    have l1 := e_layRow (N := N) hm (by rw [hO.1 _ _ (by omega) (by omega)]; exact h14) (fun j hj => by rw [hO.1 _ _ (by omega) (by omega)]; exact h42 j hj) hd
    have hmK' : mK (rM N (rb n0 P dg) (ct n0 P)) n0 ki pi := hmK.to (fun k _ _ => by rw [I_rMn (by omega), hO.1 _ _ (by omega) (by omega)])
    have hrb : ∀ j, j < ct n0 P → rb n0 P dg j < n0 := fun j hj => rb_lt hj (fun i hi => hd i (by omega))
    have l2 := e_isRowWell (M := rM N (rb n0 P dg) (ct n0 P)) (R := rb n0 P dg) (g := g) (n := n) hmK' hm (by rw [I_rMn (by omega), hO.1 _ _ (by omega) (by omega)]; exact h14) (fun j hj => ⟨I_rMe hj, hrb j hj⟩) (by omega) hn
    obtain ⟨N', y, e1, e2, e3, e4⟩ := e_order109 (N := rM N (rb n0 P dg) (ct n0 P)) (R := rb n0 P dg) (m := ct n0 P) (well := well) (b := al (ct n0 P - 1) (wlR pi g n (rb n0 P dg))) (x2 := nI g) (x3 := nI n) (x4 := x4) (x5 := nI (fa (ct n0 P))) (x7 := nI (bs (ct n0 P) dg (ct n0 P))) hm (by rw [I_rMn (by omega), hO.1 _ _ (by omega) (by omega)]; exact h14) (fun j hj => I_rMe hj) (by omega) j_fu (by unfold j_fu; omega) (fun (y45 : Int32) (M46 : j_M) => (if fl (al (ct n0 P - 1) (wlR pi g n (rb n0 P dg))) = 0 then (f_X10_order_L83 fuel  M46 (nI g) (nI n) x4 (nI (fa (ct n0 P))) (nI well + (0 : Int32)) (nI (bs (ct n0 P) dg (ct n0 P)) + (1 : Int32)) K) else (f_X10_order_L83 fuel  M46 (nI g) (nI n) x4 (nI (fa (ct n0 P))) (nI well + (1 : Int32)) (nI (bs (ct n0 P) dg (ct n0 P)) + (1 : Int32)) K)))
    refine ⟨N', ?_, ⟨fun a j ha hb => by rw [e2 a j hb, I_rMn ha]; exact hO.1 a j ha hb, by rw [e3]; exact hO.2⟩, fun hw j hj => ?_, fun hw hal _ j hj => ?_⟩
    · rw [show fa 0 = 1 from rfl, f_X10_order_L83, if_neg (nI_ge (by omega) (by omega))]
      rw [hcode] at e1 ⊢
      rw [l1, Option.bind_some, j_ckE (by rfl), l2, Option.bind_some]
      refine e1.trans ?_
      cases hal : al (ct n0 P - 1) (wlR pi g n (rb n0 P dg)) with
      | false => rw [if_pos (show fl false = 0 from rfl), add0, nI_1]; rfl
      | true => rw [if_neg (show ¬ fl true = 0 by decide), nI_1, nI_1]; rfl
    · rw [e4 j hj, if_neg (fun x => hw x.2), I_rMn (by omega)]
      exact hB hw j hj
    · rw [e4 j hj, if_pos ⟨hal, hw⟩, if_pos hj]
  | succ d ih =>
    intro k dg well B N fuel K h1 hd hwl hO hB
    have hk : k < ct n0 P := by omega
    have hLc := Ls_ct (n0 := n0) (P := P) (dg := dg) (k := k) (by omega) hd
    have hfa : fa (d + 1) = (d + 1) * fa d := rfl
    -- of a digit
    have hupL : ∀ j, Ls n0 P (up dg k j) (k + 1) = ex (Ls n0 P dg k) (nth n0 (Ls n0 P dg k) j) := fun j => by
      show ex (Ls n0 P (up dg k j) k) (nth n0 (Ls n0 P (up dg k j) k) (up dg k j k)) = _
      rw [up_e rfl, Ls_congr (dg' := dg) (fun i hi => up_n (by omega))]
    have huprb : ∀ j i, i < k → rb n0 P (up dg k j) i = rb n0 P dg i := fun j i hi => rb_congr (fun i' hi' => up_n (by omega))
    have huprk : ∀ j, rb n0 P (up dg k j) k = nth n0 (Ls n0 P dg k) j := fun j => by
      unfold rb
      rw [up_e rfl, Ls_congr (dg' := dg) (fun i hi => up_n (by omega))]
    have hupx : ∀ j, xk n0 P pi (up dg k j) (k + 1) = pi (nth n0 (Ls n0 P dg k) j) := fun j => by
      unfold xk
      rw [if_neg (by omega), show k + 1 - 1 = k by omega, huprk]
    have hupa : ∀ j, al (k + 1 - 1) (wlR pi g n (rb n0 P (up dg k j))) = (al (k - 1) (wlR pi g n (rb n0 P dg)) && fA2 pi g n (xk n0 P pi dg k) (nth n0 (Ls n0 P dg k) j)) := fun j => by
      by_cases c0 : k = 0
      · subst c0
        show true = (true && _)
        rw [show fA2 pi g n (xk n0 P pi dg 0) (nth n0 (Ls n0 P dg 0) j) = true from fA_self (by show 0 ≤ _; omega)]
        rfl
      · obtain ⟨k', rfl⟩ : ∃ k', k = k' + 1 := ⟨k - 1, by omega⟩
        rw [show k' + 1 + 1 - 1 = k' + 1 by omega, show k' + 1 - 1 = k' by omega]
        show (al k' (wlR pi g n (rb n0 P (up dg (k' + 1) j))) && wlR pi g n (rb n0 P (up dg (k' + 1) j)) k') = _
        have e1 : al k' (wlR pi g n (rb n0 P (up dg (k' + 1) j))) = al k' (wlR pi g n (rb n0 P dg)) := al_congr (fun i hi => by
          unfold wlR
          rw [huprb j i (by omega), huprb j (i + 1) (by omega)])
        rw [e1]
        congr 1
        unfold wlR fA2 xk
        rw [huprb j k' (by omega), huprk j, if_neg (by omega), show k' + 1 - 1 = k' by omega]
    have hupb : ∀ j, bs (ct n0 P) (up dg k j) (k + 1) = bs (ct n0 P) dg k + j * fa d := fun j => by
      show bs (ct n0 P) (up dg k j) k + up dg k j k * fa (ct n0 P - 1 - k) = _
      rw [up_e rfl, bs_congr (dg' := dg) (fun i hi => up_n (by omega)), show ct n0 P - 1 - k = d by omega]
    obtain ⟨v, hv⟩ : ∃ v : Nat → Nat, v = fun j => if fA2 pi g n (xk n0 P pi dg k) (nth n0 (Ls n0 P dg k) j) then wW n0 pi g n d (pi (nth n0 (Ls n0 P dg k) j)) (ex (Ls n0 P dg k) (nth n0 (Ls n0 P dg k) j)) else 0 := ⟨_, rfl⟩
    have hvle : ∀ j, j < d + 1 → v j ≤ fa d := fun j hj => by
      rw [hv]
      dsimp only
      split
      · obtain ⟨b1, b2, -⟩ := nth_spec (n := n0) (P := Ls n0 P dg k) (j := j) (by omega)
        have := ct_ex b1 b2
        exact wW_le d _ _ (by omega)
      · omega
    have hsle : ∀ J, J ≤ d + 1 → sm J v ≤ J * fa d := fun J hJ => sm_le (fun j hj => hvle j (by omega))
    have lane : ∀ e J N, J + e = d + 1 → Oq M0 N → (well ≠ 0 → ∀ j, j < ct n0 P → j_I N 44 j = nI (B j)) → (well = 0 → al (k - 1) (wlR pi g n (rb n0 P dg)) = true → 0 < sm J v → ∃ js, js < J ∧ 0 < v js ∧ (∀ j, j < js → v j = 0) ∧ ∀ i, i < ct n0 P → j_I N 44 i = nI (if i < k + 1 then rb n0 P (up dg k js) i else gsq n0 pi g n d (pi (nth n0 (Ls n0 P dg k) js)) (ex (Ls n0 P dg k) (nth n0 (Ls n0 P dg k) js)) (i - (k + 1)))) → ∃ N', f_X10_order_L83 (fuel + e * fa d) N (nI g) (nI n) x4 (nI (fa (ct n0 P))) (nI (well + if al (k - 1) (wlR pi g n (rb n0 P dg)) then sm J v else 0)) (nI (bs (ct n0 P) dg k + J * fa d)) K = f_X10_order_L83 fuel N' (nI g) (nI n) x4 (nI (fa (ct n0 P))) (nI (well + if al (k - 1) (wlR pi g n (rb n0 P dg)) then sm (d + 1) v else 0)) (nI (bs (ct n0 P) dg k + (d + 1) * fa d)) K ∧ Oq M0 N' ∧ (well ≠ 0 → ∀ j, j < ct n0 P → j_I N' 44 j = nI (B j)) ∧ (well = 0 → al (k - 1) (wlR pi g n (rb n0 P dg)) = true → 0 < sm (d + 1) v → ∃ js, js < d + 1 ∧ 0 < v js ∧ (∀ j, j < js → v j = 0) ∧ ∀ i, i < ct n0 P → j_I N' 44 i = nI (if i < k + 1 then rb n0 P (up dg k js) i else gsq n0 pi g n d (pi (nth n0 (Ls n0 P dg k) js)) (ex (Ls n0 P dg k) (nth n0 (Ls n0 P dg k) js)) (i - (k + 1)))) := by
      intro e
      induction e with
      | zero =>
        intro J N g1 g2 g3 g4
        refine ⟨N, ?_, g2, g3, ?_⟩
        · rw [show J = d + 1 by omega, Nat.zero_mul, Nat.add_zero]
        · rw [show J = d + 1 by omega] at g4; exact g4
      | succ e ihe =>
        intro J N g1 g2 g3 g4
        have hs1 := hsle J (by omega)
        have hdJ : ∀ i, i < k + 1 → up dg k J i < ct n0 P - i := fun i hi => by
          by_cases c : i = k
          · rw [up_e c]; omega
          · rw [up_n c]; exact hd i (by omega)
        have hwJ : (well + if al (k - 1) (wlR pi g n (rb n0 P dg)) then sm J v else 0) ≤ bs (ct n0 P) (up dg k J) (k + 1) := by
          rw [hupb]
          split <;> omega
        have hinc : (if al (k + 1 - 1) (wlR pi g n (rb n0 P (up dg k J))) then wW n0 pi g n d (xk n0 P pi (up dg k J) (k + 1)) (Ls n0 P (up dg k J) (k + 1)) else 0) = if al (k - 1) (wlR pi g n (rb n0 P dg)) then v J else 0 := by
          rw [hupa, hupx, hupL, hv]
          cases al (k - 1) (wlR pi g n (rb n0 P dg)) <;> rfl
        have hsum : (well + if al (k - 1) (wlR pi g n (rb n0 P dg)) then sm J v else 0) + (if al (k - 1) (wlR pi g n (rb n0 P dg)) then v J else 0) = well + if al (k - 1) (wlR pi g n (rb n0 P dg)) then sm (J + 1) v else 0 := by
          split
          · show well + sm J v + v J = well + (sm J v + v J); omega
          · rfl
        obtain ⟨B', hB'⟩ : ∃ B' : Nat → Nat, (well ≠ 0 → B' = B) ∧ ((well + if al (k - 1) (wlR pi g n (rb n0 P dg)) then sm J v else 0) ≠ 0 → ∀ j, j < ct n0 P → j_I N 44 j = nI (B' j)) := by
          by_cases c : well = 0
          · by_cases c2 : al (k - 1) (wlR pi g n (rb n0 P dg)) = true ∧ 0 < sm J v
            · obtain ⟨js, -, -, -, j4⟩ := g4 c c2.1 c2.2
              exact ⟨_, fun x => absurd c x, fun _ => j4⟩
            · refine ⟨B, fun _ => rfl, fun x => ?_⟩
              exfalso
              apply x
              rw [c]
              by_cases c3 : al (k - 1) (wlR pi g n (rb n0 P dg)) = true
              · rw [if_pos c3]
                have : ¬ 0 < sm J v := fun y => c2 ⟨c3, y⟩
                omega
              · rw [if_neg c3]
          · exact ⟨B, fun _ => rfl, fun _ => g3 c⟩
        obtain ⟨N1, r1, r2, r3, r4⟩ := ih (k + 1) (up dg k J) (well + if al (k - 1) (wlR pi g n (rb n0 P dg)) then sm J v else 0) B' N (fuel + e * fa d) K (by omega) hdJ hwJ g2 hB'.2
        rw [hinc, hsum, hupb] at r1
        have hJm : (J + 1) * fa d = J * fa d + fa d := Nat.succ_mul _ _
        have hem : (e + 1) * fa d = e * fa d + fa d := Nat.succ_mul _ _
        obtain ⟨N', t1, t2, t3, t4⟩ := ihe (J + 1) N1 (by omega) r2 (fun hw j hj => by
          rw [r3 (by omega) j hj, hB'.1 hw]) (fun hw hal hpos => by
          rw [hal, if_pos rfl, hw, Nat.zero_add] at r3 r4
          by_cases c : 0 < sm J v
          · obtain ⟨js, j1, j2, j3, j4⟩ := g4 hw hal c
            refine ⟨js, by omega, j2, j3, fun i hi => ?_⟩
            have e1 := r3 (by omega) i hi
            have e2 := hB'.2 (by rw [hal, if_pos rfl]; omega) i hi
            rw [e1, ← e2]
            exact j4 i hi
          · have hz : sm J v = 0 := by omega
            have hpos' : 0 < sm J v + v J := hpos
            have hvJ : 0 < v J := by omega
            have hv0 : ∀ j, j < J → v j = 0 := fun j hj => by
              apply Classical.byContradiction
              intro x
              have := sm_pos.mpr ⟨j, hj, (by omega : 0 < v j)⟩
              omega
            refine ⟨J, by omega, hvJ, hv0, fun i hi => ?_⟩
            have hfA : fA2 pi g n (xk n0 P pi dg k) (nth n0 (Ls n0 P dg k) J) = true ∧ 0 < wW n0 pi g n d (pi (nth n0 (Ls n0 P dg k) J)) (ex (Ls n0 P dg k) (nth n0 (Ls n0 P dg k) J)) := by
              rw [hv] at hvJ
              dsimp only at hvJ
              by_cases c3 : fA2 pi g n (xk n0 P pi dg k) (nth n0 (Ls n0 P dg k) J) = true
              · rw [if_pos c3] at hvJ; exact ⟨c3, hvJ⟩
              · rw [if_neg c3] at hvJ; omega
            have e1 := r4 hz (by rw [hupa, hal, hfA.1]; rfl) (by rw [hupx, hupL]; exact hfA.2) i hi
            rw [hupx, hupL] at e1
            exact e1)
        refine ⟨N', ?_, t2, t3, t4⟩
        rw [hem, ← Nat.add_assoc, r1, Nat.add_assoc (bs (ct n0 P) dg k), ← hJm]
        exact t1
    obtain ⟨N', t1, t2, t3, t4⟩ := lane (d + 1) 0 N (by omega) hO hB (fun _ _ h => absurd h (by simp [sm]))
    have htot : sm (d + 1) v = wW n0 pi g n (d + 1) (xk n0 P pi dg k) (Ls n0 P dg k) := by
      have := sm_nth (n0 := n0) (L := Ls n0 P dg k) (h := fun b => if fA2 pi g n (xk n0 P pi dg k) b then wW n0 pi g n d (pi b) (ex (Ls n0 P dg k) b) else 0) n0 (Nat.le_refl _)
      rw [hLc, show ct n0 P - k = d + 1 by omega] at this
      rw [hv]
      refine this.trans ?_
      show _ = sm n0 (fun b => if Ls n0 P dg k b && fA2 pi g n (xk n0 P pi dg k) b then wW n0 pi g n d (pi b) (ex (Ls n0 P dg k) b) else 0)
      refine sm_congr (fun b hb => ?_)
      cases Ls n0 P dg k b <;> cases fA2 pi g n (xk n0 P pi dg k) b <;> rfl
    refine ⟨N', ?_, t2, t3, fun hw hal hpos => ?_⟩
    · rw [show sm 0 v = 0 from rfl, Nat.zero_mul, Nat.add_zero] at t1
      rw [← htot, hfa]
      refine Eq.trans ?_ t1
      congr 1
      split <;> rfl
    · rw [← htot] at hpos
      obtain ⟨js, j1, j2, j3, j4⟩ := t4 hw hal hpos
      obtain ⟨b1, b2, b3⟩ := nth_spec (n := n0) (P := Ls n0 P dg k) (j := js) (by omega)
      have hvp : ∀ j, 0 < v j → fA2 pi g n (xk n0 P pi dg k) (nth n0 (Ls n0 P dg k) j) = true ∧ 0 < wW n0 pi g n d (pi (nth n0 (Ls n0 P dg k) j)) (ex (Ls n0 P dg k) (nth n0 (Ls n0 P dg k) j)) := fun j hj => by
        rw [hv] at hj
        dsimp only at hj
        by_cases c3 : fA2 pi g n (xk n0 P pi dg k) (nth n0 (Ls n0 P dg k) j) = true
        · rw [if_pos c3] at hj; exact ⟨c3, hj⟩
        · rw [if_neg c3] at hj; omega
      have hgN : gN n0 pi g n d (xk n0 P pi dg k) (Ls n0 P dg k) = nth n0 (Ls n0 P dg k) js := by
        unfold gN
        rw [fst1_eq b1 (by rw [b2, (hvp js j2).1, decide_eq_true (hvp js j2).2]; rfl) (fun p hp hc => by
          have hc' : (Ls n0 P dg k p = true ∧ fA2 pi g n (xk n0 P pi dg k) p = true) ∧ 0 < wW n0 pi g n d (pi p) (ex (Ls n0 P dg k) p) := by simpa using hc
          have e1 := nth_ct (n := n0) (P := Ls n0 P dg k) (show p < n0 by omega) hc'.1.1
          have e2 : ct p (Ls n0 P dg k) < js := by
            have := ct_mono (P := Ls n0 P dg k) (show p + 1 ≤ nth n0 (Ls n0 P dg k) js by omega)
            rw [ct_s, if_pos hc'.1.1] at this
            omega
          have e3 := j3 _ e2
          rw [hv] at e3
          dsimp only at e3
          rw [e1, if_pos hc'.1.2] at e3
          omega)]
        rfl
      intro i hi
      rw [j4 i hi]
      congr 1
      by_cases c1 : i < k
      · rw [if_pos (show i < k + 1 by omega), if_pos c1, huprb js i c1]
      · rw [if_neg c1]
        by_cases c2 : i = k
        · subst c2
          rw [if_pos (show i < i + 1 by omega), huprk, Nat.sub_self]
          exact hgN.symm
        · rw [if_neg (show ¬ i < k + 1 by omega), show i - k = (i - (k + 1)) + 1 by omega]
          show _ = gsq n0 pi g n d (pi (gN n0 pi g n d (xk n0 P pi dg k) (Ls n0 P dg k))) (ex (Ls n0 P dg k) (gN n0 pi g n d (xk n0 P pi dg k) (Ls n0 P dg k))) (i - (k + 1))
          rw [hgN]
end
theorem e_order58 {M : j_M} {m : Nat} {x2 x3 x4 x6 : Int32} (hm : m ≤ 7) (h14 : j_I M 35 14 = nI m) (fuel : Nat) (hfu : 100 < fuel) (K : Int32 → Int32 → Option (Int32 × j_M)) : ∃ y, f_X10_order_L58 fuel M x2 x3 x4 (1 : Int32) x6 (2 : Int32) K = K (nI (fa m)) y := by
  have key : ∀ d k fuel K, k + 1 + d = m → d < fuel → ∃ y, f_X10_order_L58 fuel M x2 x3 x4 (nI (fa (k + 1))) x6 (nI (k + 2)) K = K (nI (fa m)) y := by
    intro d
    induction d with
    | zero =>
      intro k fuel K h1 h2
      obtain ⟨fuel, rfl⟩ : ∃ f, fuel = f + 1 := ⟨fuel - 1, by omega⟩
      refine ⟨nI (k + 2), ?_⟩
      rw [f_X10_order_L58, h14, if_pos (nI_lt (by omega) (by omega)), show k + 1 = m by omega]
    | succ d ih =>
      intro k fuel K h1 h2
      obtain ⟨fuel, rfl⟩ : ∃ f, fuel = f + 1 := ⟨fuel - 1, by omega⟩
      obtain ⟨y, e⟩ := ih (k + 1) fuel K (by omega) (by omega)
      refine ⟨y, ?_⟩
      rw [f_X10_order_L58, h14, if_neg (nI_nlt (by omega) (by omega)), pk_mul, nI_1, Nat.mul_comm]
      exact e
  by_cases c : m = 0
  · obtain ⟨fuel, rfl⟩ : ∃ f, fuel = f + 1 := ⟨fuel - 1, by omega⟩
    refine ⟨2, ?_⟩
    rw [f_X10_order_L58, h14, c, if_pos (by decide)]
    rfl
  · exact key (m - 1) 0 fuel K (by omega) (by omega)
theorem e_order10 {M : j_M} {be : Nat → Nat} {P : Nat → Bool} {g n : Nat} {x4 : Int32} (hi : iM M 36 0 be) (w : wf be) (hg : g ≤ 60) (hn : n ≤ 9) (K : Int32 → Int32 → j_M → Option (Int32 × j_M)) : ∃ N' y, f_X10_order_L83 j_fu (sM M (nth (be 0) P) (ct (be 0) P)) (nI g) (nI n) x4 (nI (fa (ct (be 0) P))) (0 : Int32) (0 : Int32) K = K (nI (wW (be 0) (fun p => be (37 + p)) g n (ct (be 0) P) 0 P)) y N' ∧ Oq (sM M (nth (be 0) P) (ct (be 0) P)) N' ∧ ∀ j, j < ct (be 0) P → j_I N' 44 j = nI (gsq (be 0) (fun p => be (37 + p)) g n (ct (be 0) P) 0 P j) := by
  have h7 := w.1
  have hct := ct_le (n := be 0) P
  have hfl := fa_le (ct (be 0) P) (by omega)
  have hj : 100000 < j_fu := by unfold j_fu; omega
  obtain ⟨fu, hfu⟩ : ∃ fu, j_fu = fu + 1 + fa (ct (be 0) P) := ⟨j_fu - fa (ct (be 0) P) - 1, by omega⟩
  obtain ⟨N', e1, e2, e3, e4⟩ := e_block (M0 := sM M (nth (be 0) P) (ct (be 0) P)) (n0 := be 0) (P := P) (x4 := x4) (g := g) (n := n) (Inv.mK hi.sM w) (by omega) I_sM14 (fun j hj => I_sMe hj) hg hn (ct (be 0) P) 0 (fun _ => 0) 0 (fun _ => 0) _ (fu + 1) K (by omega) (fun i hi => by omega) (by omega) ⟨fun _ _ _ _ => rfl, rfl⟩ (fun x => absurd rfl x)
  have htot := w_total (n0 := be 0) (pi := fun p => be (37 + p)) (g := g) (n := n) (L := P) (d := ct (be 0) P) rfl
  refine ⟨N', nI (fa (ct (be 0) P)), ?_, e2, fun j hj => ?_⟩
  · rw [hfu]
    refine e1.trans ?_
    rw [f_X10_order_L83, if_pos (nI_le (show fa (ct (be 0) P) ≤ bs (ct (be 0) P) (fun _ => 0) 0 + fa (ct (be 0) P) by omega) (by show 0 + _ < _; omega))]
    show K (nI (0 + wW (be 0) (fun p => be (37 + p)) g n (ct (be 0) P) 0 P)) (nI (0 + fa (ct (be 0) P))) N' = _
    rw [Nat.zero_add, Nat.zero_add]
  · have := e4 rfl rfl htot j hj
    rw [if_neg (by omega), Nat.sub_zero] at this
    exact this
theorem op_order (a1 a2 a3 a4 : Int32) : lw_ok Inv (fun M => f_X9_order M a1 a2 a3 a4) (fun M => f_X10_order M a1 a2 a3 a4) := by
  refine okI (fun M h => ?_)
  obtain ⟨be, b1, b2, b3⟩ := h.2.2.2.2.1
  have h7 := b3.1
  rcases rg (x := a1) (lo := 0) (hi := 3) (lo' := 0) (hi' := 3) 0 3 rfl rfl rfl rfl (by omega) (by omega) with ⟨p0, q0⟩ | ⟨l, m0, l0, rfl, p0, q0⟩
  · refine ok_ref h 0 (by omega) (v := ((-10) : Int32)) ?_ ?_
    · show f_X9_order M a1 a2 a3 a4 = _
      unfold f_X9_order f_X9_isLane
      simp only [tlE]
      rw [p0, if_pos rfl, bind_ten]
    · show f_X10_order _ a1 a2 a3 a4 = _
      unfold f_X10_order f_X10_isLane
      simp only [tlE]
      rw [q0, if_pos rfl, bind_bad10]
  · rcases rg (x := a2) (lo := 0) (hi := 60) (lo' := 0) (hi' := 60) 0 60 rfl rfl rfl rfl (by omega) (by omega) with ⟨p1, q1⟩ | ⟨g, m1, l1, rfl, p1, q1⟩
    · refine ok_ref h 0 (by omega) (v := ((-10) : Int32)) ?_ ?_
      · show f_X9_order M (nI l) a2 a3 a4 = _
        unfold f_X9_order f_X9_isLane
        simp only [tlE]
        rw [p0, if_neg (by decide), p1, if_pos rfl, bind_ten]
      · show f_X10_order _ (nI l) a2 a3 a4 = _
        unfold f_X10_order f_X10_isLane
        simp only [tlE]
        rw [q0, if_neg (by decide), q1, if_pos rfl, bind_bad10]
    · rcases rg (x := a3) (lo := 1) (hi := 9) (lo' := 1) (hi' := 9) 1 9 rfl rfl rfl rfl (by omega) (by omega) with ⟨p2, q2⟩ | ⟨n, m2, l2, rfl, p2, q2⟩
      · refine ok_ref h 0 (by omega) (v := ((-10) : Int32)) ?_ ?_
        · show f_X9_order M (nI l) (nI g) a3 a4 = _
          unfold f_X9_order f_X9_isLane
          simp only [tlE]
          rw [p0, if_neg (by decide), p1, if_neg (by decide), p2, if_pos rfl, bind_ten]
        · show f_X10_order _ (nI l) (nI g) a3 a4 = _
          unfold f_X10_order f_X10_isLane
          simp only [tlE]
          rw [q0, if_neg (by decide), q1, if_neg (by decide), q2, if_pos rfl, bind_bad10]
      · by_cases c : (-1 : Int32) ≤ a4
        · have hct := ct_le (n := be 0) (fun q => decide (be (9 + q) = l))
          have hm9 := e_members b1.1 b3.1 (b1.row b3) (lane := l) (by omega)
          rw [row_mem] at hm9
          have hW := w_pdt (n0 := be 0) (pi := fun p => be (37 + p)) (g := g) (n := n) (ct (be 0) (fun q => decide (be (9 + q) = l))) (fun q => decide (be (9 + q) = l)) rfl
          have htot := w_total (n0 := be 0) (pi := fun p => be (37 + p)) (g := g) (n := n) (L := fun q => decide (be (9 + q) = l)) (d := ct (be 0) (fun q => decide (be (9 + q) = l))) rfl
          have hWle := wW_le (n0 := be 0) (pi := fun p => be (37 + p)) (g := g) (n := n) (ct (be 0) (fun q => decide (be (9 + q) = l))) 0 (fun q => decide (be (9 + q) = l)) rfl
          have hfl := fa_le (ct (be 0) (fun q => decide (be (9 + q) = l))) (by omega)
          obtain ⟨N', y, e1, e2, e3⟩ := e_order10 (P := fun q => decide (be (9 + q) = l)) (x4 := a4) b2 b3 l1 l2 (fun (y49 : Int32) (y50 : Int32) (M51 : j_M) => (if a4 = ((-1) : Int32) then (some (y49, M51)) else (if y49 = 0 then (some (((-1) : Int32), M51)) else (if (j_I M51 35 14) ≤ a4 then (some (((-5) : Int32), M51)) else (a_i M51 44 7 a4 fun v56 => (some (v56, M51)))))))
          obtain ⟨y', e58⟩ := e_order58 (M := sM M (nth (be 0) (fun q => decide (be (9 + q) = l))) (ct (be 0) (fun q => decide (be (9 + q) = l)))) (x2 := nI g) (x3 := nI n) (x4 := a4) (x6 := (0 : Int32)) (m := ct (be 0) (fun q => decide (be (9 + q) = l))) (by omega) I_sM14 j_fu (by unfold j_fu; omega) (fun (y28 : Int32) (y29 : Int32) => (f_X10_order_L83 j_fu  (sM M (nth (be 0) (fun q => decide (be (9 + q) = l))) (ct (be 0) (fun q => decide (be (9 + q) = l)))) (nI g) (nI n) a4 y28 (0 : Int32) (0 : Int32) (fun (y49 : Int32) (y50 : Int32) (M51 : j_M) => (if a4 = ((-1) : Int32) then (some (y49, M51)) else (if y49 = 0 then (some (((-1) : Int32), M51)) else (if (j_I M51 35 14) ≤ a4 then (some (((-5) : Int32), M51)) else (a_i M51 44 7 a4 fun v56 => (some (v56, M51)))))))))
          have nbN : nb M N' := by
            have h1 : nb M (sM M (nth (be 0) (fun q => decide (be (9 + q) = l))) (ct (be 0) (fun q => decide (be (9 + q) = l)))) := sM_nb
            exact h1.tr ⟨fun a k hs => e2.1 a k (by unfold scr at hs; omega) (by unfold scr at hs; omega), fun a k _ => by show N'.2.1 a k = _; rw [e2.2]; rfl, by rw [e2.2]⟩
          have h14 : j_I N' 35 14 = nI (ct (be 0) (fun q => decide (be (9 + q) = l))) := by rw [e2.1 _ _ (by omega) (by omega)]; exact I_sM14
          have hten : ∀ v, (if a4 = ((-1) : Int32) then (some (nI (wW (be 0) (fun p => be (37 + p)) g n (ct (be 0) (fun q => decide (be (9 + q) = l))) 0 (fun q => decide (be (9 + q) = l))), N')) else (if nI (wW (be 0) (fun p => be (37 + p)) g n (ct (be 0) (fun q => decide (be (9 + q) = l))) 0 (fun q => decide (be (9 + q) = l))) = 0 then (some (((-1) : Int32), N')) else (if (j_I N' 35 14) ≤ a4 then (some (((-5) : Int32), N')) else (a_i N' 44 7 a4 fun v56 => (some (v56, N')))))) = some (v, N') → f_X10_order M (nI l) (nI g) (nI n) a4 = some (v, N') := fun v hv => by
            unfold f_X10_order f_X10_isLane
            simp only [tlE]
            rw [q0, if_neg (by decide), q1, if_neg (by decide), q2, if_neg (by decide), if_pos c, e_layStart b2 b3 (by omega), Option.bind_some, j_ckE (by rfl), e58]
            refine e1.trans ?_
            exact hv
          by_cases cm : a4 = -1
          · refine ok_nb h (v := nI (wW (be 0) (fun p => be (37 + p)) g n (ct (be 0) (fun q => decide (be (9 + q) = l))) 0 (fun q => decide (be (9 + q) = l)))) (M1 := M) (M2 := N') ?_ nb.rf ?_ nbN
            · show f_X9_order M (nI l) (nI g) (nI n) a4 = _
              unfold f_X9_order f_X9_isLane
              simp only [tlE]
              rw [p0, if_neg (by decide), p1, if_neg (by decide), p2, if_neg (by decide), if_pos c, hm9, Option.bind_some, if_pos cm, e_ordersOf b1 b3 l1 l2, Option.bind_some, hW]
            · exact hten _ (by rw [if_pos cm])
          · have hnn : ¬ a4 < 0 := by
              intro x
              have h1 := Int32.lt_iff_toInt_lt.mp x
              have h2 := Int32.le_iff_toInt_le.mp c
              have e0 : (0 : Int32).toInt = 0 := rfl
              have em : (-1 : Int32).toInt = -1 := by decide
              exact cm (Int32.toInt_inj.mp (by omega))
            obtain ⟨i, hi, rfl⟩ := nI_of hnn
            refine ok_nb h (v := if i < ct (be 0) (fun q => decide (be (9 + q) = l)) then nI (gsq (be 0) (fun p => be (37 + p)) g n (ct (be 0) (fun q => decide (be (9 + q) = l))) 0 (fun q => decide (be (9 + q) = l)) i) else -5) (M1 := M) (M2 := N') ?_ nb.rf ?_ nbN
            · show f_X9_order M (nI l) (nI g) (nI n) (nI i) = _
              unfold f_X9_order f_X9_isLane
              simp only [tlE]
              rw [p0, if_neg (by decide), p1, if_neg (by decide), p2, if_neg (by decide), if_pos c, hm9, Option.bind_some, if_neg cm, e_bc h7]
              by_cases ci : i < ct (be 0) (fun q => decide (be (9 + q) = l))
              · rw [if_pos (nI_lt ci (by omega)), e_starter b1 b3 l1 l2 ci, Option.bind_some, if_pos ci]
              · rw [if_neg (nI_nlt (by omega) hi), if_neg ci]
            · refine hten _ ?_
              rw [if_neg cm, if_neg (nI_ne0 htot (by omega)), h14]
              by_cases ci : i < ct (be 0) (fun q => decide (be (9 + q) = l))
              · rw [if_neg (nI_ge ci (by omega)), a_iN (by omega) (by omega), e3 i ci, if_pos ci]
              · rw [if_pos (nI_le (by omega) hi), if_neg ci]
        · refine ok_ref h 0 (by omega) (v := ((-10) : Int32)) ?_ ?_
          · show f_X9_order M (nI l) (nI g) (nI n) a4 = _
            unfold f_X9_order f_X9_isLane
            simp only [tlE]
            rw [p0, if_neg (by decide), p1, if_neg (by decide), p2, if_neg (by decide), if_neg c, bind_ten]
          · show f_X10_order _ (nI l) (nI g) (nI n) a4 = _
            unfold f_X10_order f_X10_isLane
            simp only [tlE]
            rw [q0, if_neg (by decide), q1, if_neg (by decide), q2, if_neg (by decide), if_neg c, bind_bad10]

def sh_a (a n : Nat) (q : ((Nat → Nat → Option Nat) × (Nat → Nat × Nat) × Nat)) : Prop := q.2.1 a = (1, n) ∧ a < q.2.2
theorem a_s {M : j_M} {a n : Nat} (h : sh_a a n M.2.2) : j_S M a = (1, n) := h.1
theorem a_n {M : j_M} {a n : Nat} (h : sh_a a n M.2.2) : a < j_N M := h.2
def sh_m (q : ((Nat → Nat → Option Nat) × (Nat → Nat × Nat) × Nat)) : Prop := 51 ≤ q.2.2 ∧ (q.2.1 35).1 = 10 + 10 ∧ q.2.1 36 = (1, 250) ∧ q.1 35 0 = some 36 ∧ q.2.1 37 = (1, 500) ∧ q.1 35 1 = some 37 ∧ q.2.1 38 = (3, 2) ∧ q.1 35 2 = some 38 ∧ q.2.1 39 = (1, 3) ∧ q.1 35 3 = some 39 ∧ q.2.1 40 = (1, 7) ∧ q.1 35 6 = some 40 ∧ q.2.1 41 = (1, 7) ∧ q.1 35 10 = some 41 ∧ q.2.1 42 = (1, 7) ∧ q.1 35 11 = some 42 ∧ q.2.1 43 = (1, 7) ∧ q.1 35 12 = some 43 ∧ q.2.1 44 = (1, 7) ∧ q.1 35 13 = some 44 ∧ q.2.1 45 = (1, 4) ∧ q.1 35 15 = some 45 ∧ q.2.1 46 = (1, 4) ∧ q.1 35 16 = some 46 ∧ q.2.1 47 = (1, 7) ∧ q.1 35 17 = some 47 ∧ q.2.1 48 = (1, 150) ∧ q.1 35 18 = some 48 ∧ q.2.1 49 = (1, 74) ∧ q.1 35 24 = some 49 ∧ q.2.1 50 = (1, 3) ∧ q.1 35 25 = some 50
theorem m_o {M : j_M} (h : sh_m M.2.2) : (j_S M 35).1 = 10 + 10 := h.2.1
theorem m_s36 {M : j_M} (h : sh_m M.2.2) : j_S M 36 = (1, 250) := h.2.2.1
theorem m_r0 {M : j_M} (h : sh_m M.2.2) : j_R M 35 0 = some 36 := h.2.2.2.1
theorem m_s37 {M : j_M} (h : sh_m M.2.2) : j_S M 37 = (1, 500) := h.2.2.2.2.1
theorem m_r1 {M : j_M} (h : sh_m M.2.2) : j_R M 35 1 = some 37 := h.2.2.2.2.2.1
theorem m_s38 {M : j_M} (h : sh_m M.2.2) : j_S M 38 = (3, 2) := h.2.2.2.2.2.2.1
theorem m_r2 {M : j_M} (h : sh_m M.2.2) : j_R M 35 2 = some 38 := h.2.2.2.2.2.2.2.1
theorem m_s39 {M : j_M} (h : sh_m M.2.2) : j_S M 39 = (1, 3) := h.2.2.2.2.2.2.2.2.1
theorem m_r3 {M : j_M} (h : sh_m M.2.2) : j_R M 35 3 = some 39 := h.2.2.2.2.2.2.2.2.2.1
theorem m_s40 {M : j_M} (h : sh_m M.2.2) : j_S M 40 = (1, 7) := h.2.2.2.2.2.2.2.2.2.2.1
theorem m_r6 {M : j_M} (h : sh_m M.2.2) : j_R M 35 6 = some 40 := h.2.2.2.2.2.2.2.2.2.2.2.1
theorem m_s41 {M : j_M} (h : sh_m M.2.2) : j_S M 41 = (1, 7) := h.2.2.2.2.2.2.2.2.2.2.2.2.1
theorem m_r10 {M : j_M} (h : sh_m M.2.2) : j_R M 35 10 = some 41 := h.2.2.2.2.2.2.2.2.2.2.2.2.2.1
theorem m_s42 {M : j_M} (h : sh_m M.2.2) : j_S M 42 = (1, 7) := h.2.2.2.2.2.2.2.2.2.2.2.2.2.2.1
theorem m_r11 {M : j_M} (h : sh_m M.2.2) : j_R M 35 11 = some 42 := h.2.2.2.2.2.2.2.2.2.2.2.2.2.2.2.1
theorem m_s43 {M : j_M} (h : sh_m M.2.2) : j_S M 43 = (1, 7) := h.2.2.2.2.2.2.2.2.2.2.2.2.2.2.2.2.1
theorem m_r12 {M : j_M} (h : sh_m M.2.2) : j_R M 35 12 = some 43 := h.2.2.2.2.2.2.2.2.2.2.2.2.2.2.2.2.2.1
theorem m_s44 {M : j_M} (h : sh_m M.2.2) : j_S M 44 = (1, 7) := h.2.2.2.2.2.2.2.2.2.2.2.2.2.2.2.2.2.2.1
theorem m_r13 {M : j_M} (h : sh_m M.2.2) : j_R M 35 13 = some 44 := h.2.2.2.2.2.2.2.2.2.2.2.2.2.2.2.2.2.2.2.1
theorem m_s45 {M : j_M} (h : sh_m M.2.2) : j_S M 45 = (1, 4) := h.2.2.2.2.2.2.2.2.2.2.2.2.2.2.2.2.2.2.2.2.1
theorem m_r15 {M : j_M} (h : sh_m M.2.2) : j_R M 35 15 = some 45 := h.2.2.2.2.2.2.2.2.2.2.2.2.2.2.2.2.2.2.2.2.2.1
theorem m_s46 {M : j_M} (h : sh_m M.2.2) : j_S M 46 = (1, 4) := h.2.2.2.2.2.2.2.2.2.2.2.2.2.2.2.2.2.2.2.2.2.2.1
theorem m_r16 {M : j_M} (h : sh_m M.2.2) : j_R M 35 16 = some 46 := h.2.2.2.2.2.2.2.2.2.2.2.2.2.2.2.2.2.2.2.2.2.2.2.1
theorem m_s47 {M : j_M} (h : sh_m M.2.2) : j_S M 47 = (1, 7) := h.2.2.2.2.2.2.2.2.2.2.2.2.2.2.2.2.2.2.2.2.2.2.2.2.1
theorem m_r17 {M : j_M} (h : sh_m M.2.2) : j_R M 35 17 = some 47 := h.2.2.2.2.2.2.2.2.2.2.2.2.2.2.2.2.2.2.2.2.2.2.2.2.2.1
theorem m_s48 {M : j_M} (h : sh_m M.2.2) : j_S M 48 = (1, 150) := h.2.2.2.2.2.2.2.2.2.2.2.2.2.2.2.2.2.2.2.2.2.2.2.2.2.2.1
theorem m_r18 {M : j_M} (h : sh_m M.2.2) : j_R M 35 18 = some 48 := h.2.2.2.2.2.2.2.2.2.2.2.2.2.2.2.2.2.2.2.2.2.2.2.2.2.2.2.1
theorem m_s49 {M : j_M} (h : sh_m M.2.2) : j_S M 49 = (1, 74) := h.2.2.2.2.2.2.2.2.2.2.2.2.2.2.2.2.2.2.2.2.2.2.2.2.2.2.2.2.1
theorem m_r24 {M : j_M} (h : sh_m M.2.2) : j_R M 35 24 = some 49 := h.2.2.2.2.2.2.2.2.2.2.2.2.2.2.2.2.2.2.2.2.2.2.2.2.2.2.2.2.2.1
theorem m_s50 {M : j_M} (h : sh_m M.2.2) : j_S M 50 = (1, 3) := h.2.2.2.2.2.2.2.2.2.2.2.2.2.2.2.2.2.2.2.2.2.2.2.2.2.2.2.2.2.2.1
theorem m_r25 {M : j_M} (h : sh_m M.2.2) : j_R M 35 25 = some 50 := h.2.2.2.2.2.2.2.2.2.2.2.2.2.2.2.2.2.2.2.2.2.2.2.2.2.2.2.2.2.2.2
theorem m_n {M : j_M} {a : Nat} (h : sh_m M.2.2) (ha : a < 51) : a < j_N M := Nat.lt_of_lt_of_le ha h.1
def sh_b (b : Nat) (q : ((Nat → Nat → Option Nat) × (Nat → Nat × Nat) × Nat)) : Prop := (b + 9 ≤ q.2.2 ∧ 17 ≤ q.2.2) ∧ (q.2.1 b).1 = 10 + 0 ∧ q.2.1 (b + 1) = (1, 4) ∧ q.1 b 1 = some (b + 1) ∧ q.2.1 (b + 2) = (1, 4) ∧ q.1 b 2 = some (b + 2) ∧ q.2.1 (b + 3) = (1, 7) ∧ q.1 b 3 = some (b + 3) ∧ q.2.1 (b + 4) = (1, 7) ∧ q.1 b 4 = some (b + 4) ∧ q.2.1 (b + 5) = (1, 22) ∧ q.1 b 5 = some (b + 5) ∧ q.2.1 (b + 6) = (1, 176) ∧ q.1 b 6 = some (b + 6) ∧ q.2.1 (b + 7) = (1, 30) ∧ q.1 b 7 = some (b + 7) ∧ q.2.1 (b + 8) = (1, 4) ∧ q.1 b 8 = some (b + 8) ∧ q.1 b 0 = some 10 ∧ q.2.1 10 = (6, 6) ∧ q.1 10 0 = some 11 ∧ (q.2.1 11).1 = 10 + 3 ∧ q.1 10 1 = some 12 ∧ (q.2.1 12).1 = 10 + 2 ∧ q.1 10 2 = some 13 ∧ (q.2.1 13).1 = 10 + 5 ∧ q.1 10 3 = some 14 ∧ (q.2.1 14).1 = 10 + 8 ∧ q.1 10 4 = some 15 ∧ (q.2.1 15).1 = 10 + 1 ∧ q.1 10 5 = some 16 ∧ (q.2.1 16).1 = 10 + 6
theorem b_o {M : j_M} {b : Nat} (h : sh_b b M.2.2) : (j_S M b).1 = 10 + 0 := h.2.1
theorem b_s1 {M : j_M} {b : Nat} (h : sh_b b M.2.2) : j_S M (b + 1) = (1, 4) := h.2.2.1
theorem b_r1 {M : j_M} {b : Nat} (h : sh_b b M.2.2) : j_R M b 1 = some (b + 1) := h.2.2.2.1
theorem b_s2 {M : j_M} {b : Nat} (h : sh_b b M.2.2) : j_S M (b + 2) = (1, 4) := h.2.2.2.2.1
theorem b_r2 {M : j_M} {b : Nat} (h : sh_b b M.2.2) : j_R M b 2 = some (b + 2) := h.2.2.2.2.2.1
theorem b_s3 {M : j_M} {b : Nat} (h : sh_b b M.2.2) : j_S M (b + 3) = (1, 7) := h.2.2.2.2.2.2.1
theorem b_r3 {M : j_M} {b : Nat} (h : sh_b b M.2.2) : j_R M b 3 = some (b + 3) := h.2.2.2.2.2.2.2.1
theorem b_s4 {M : j_M} {b : Nat} (h : sh_b b M.2.2) : j_S M (b + 4) = (1, 7) := h.2.2.2.2.2.2.2.2.1
theorem b_r4 {M : j_M} {b : Nat} (h : sh_b b M.2.2) : j_R M b 4 = some (b + 4) := h.2.2.2.2.2.2.2.2.2.1
theorem b_s5 {M : j_M} {b : Nat} (h : sh_b b M.2.2) : j_S M (b + 5) = (1, 22) := h.2.2.2.2.2.2.2.2.2.2.1
theorem b_r5 {M : j_M} {b : Nat} (h : sh_b b M.2.2) : j_R M b 5 = some (b + 5) := h.2.2.2.2.2.2.2.2.2.2.2.1
theorem b_s6 {M : j_M} {b : Nat} (h : sh_b b M.2.2) : j_S M (b + 6) = (1, 176) := h.2.2.2.2.2.2.2.2.2.2.2.2.1
theorem b_r6 {M : j_M} {b : Nat} (h : sh_b b M.2.2) : j_R M b 6 = some (b + 6) := h.2.2.2.2.2.2.2.2.2.2.2.2.2.1
theorem b_s7 {M : j_M} {b : Nat} (h : sh_b b M.2.2) : j_S M (b + 7) = (1, 30) := h.2.2.2.2.2.2.2.2.2.2.2.2.2.2.1
theorem b_r7 {M : j_M} {b : Nat} (h : sh_b b M.2.2) : j_R M b 7 = some (b + 7) := h.2.2.2.2.2.2.2.2.2.2.2.2.2.2.2.1
theorem b_s8 {M : j_M} {b : Nat} (h : sh_b b M.2.2) : j_S M (b + 8) = (1, 4) := h.2.2.2.2.2.2.2.2.2.2.2.2.2.2.2.2.1
theorem b_r8 {M : j_M} {b : Nat} (h : sh_b b M.2.2) : j_R M b 8 = some (b + 8) := h.2.2.2.2.2.2.2.2.2.2.2.2.2.2.2.2.2.1
theorem b_r0 {M : j_M} {b : Nat} (h : sh_b b M.2.2) : j_R M b 0 = some 10 := h.2.2.2.2.2.2.2.2.2.2.2.2.2.2.2.2.2.2.1
theorem b_ks {M : j_M} {b : Nat} (h : sh_b b M.2.2) : j_S M 10 = (6, 6) := h.2.2.2.2.2.2.2.2.2.2.2.2.2.2.2.2.2.2.2.1
theorem b_k0 {M : j_M} {b : Nat} (h : sh_b b M.2.2) : j_R M 10 0 = some 11 := h.2.2.2.2.2.2.2.2.2.2.2.2.2.2.2.2.2.2.2.2.1
theorem b_c0 {M : j_M} {b : Nat} (h : sh_b b M.2.2) : (j_S M 11).1 = 10 + 3 := h.2.2.2.2.2.2.2.2.2.2.2.2.2.2.2.2.2.2.2.2.2.1
theorem b_k1 {M : j_M} {b : Nat} (h : sh_b b M.2.2) : j_R M 10 1 = some 12 := h.2.2.2.2.2.2.2.2.2.2.2.2.2.2.2.2.2.2.2.2.2.2.1
theorem b_c1 {M : j_M} {b : Nat} (h : sh_b b M.2.2) : (j_S M 12).1 = 10 + 2 := h.2.2.2.2.2.2.2.2.2.2.2.2.2.2.2.2.2.2.2.2.2.2.2.1
theorem b_k2 {M : j_M} {b : Nat} (h : sh_b b M.2.2) : j_R M 10 2 = some 13 := h.2.2.2.2.2.2.2.2.2.2.2.2.2.2.2.2.2.2.2.2.2.2.2.2.1
theorem b_c2 {M : j_M} {b : Nat} (h : sh_b b M.2.2) : (j_S M 13).1 = 10 + 5 := h.2.2.2.2.2.2.2.2.2.2.2.2.2.2.2.2.2.2.2.2.2.2.2.2.2.1
theorem b_k3 {M : j_M} {b : Nat} (h : sh_b b M.2.2) : j_R M 10 3 = some 14 := h.2.2.2.2.2.2.2.2.2.2.2.2.2.2.2.2.2.2.2.2.2.2.2.2.2.2.1
theorem b_c3 {M : j_M} {b : Nat} (h : sh_b b M.2.2) : (j_S M 14).1 = 10 + 8 := h.2.2.2.2.2.2.2.2.2.2.2.2.2.2.2.2.2.2.2.2.2.2.2.2.2.2.2.1
theorem b_k4 {M : j_M} {b : Nat} (h : sh_b b M.2.2) : j_R M 10 4 = some 15 := h.2.2.2.2.2.2.2.2.2.2.2.2.2.2.2.2.2.2.2.2.2.2.2.2.2.2.2.2.1
theorem b_c4 {M : j_M} {b : Nat} (h : sh_b b M.2.2) : (j_S M 15).1 = 10 + 1 := h.2.2.2.2.2.2.2.2.2.2.2.2.2.2.2.2.2.2.2.2.2.2.2.2.2.2.2.2.2.1
theorem b_k5 {M : j_M} {b : Nat} (h : sh_b b M.2.2) : j_R M 10 5 = some 16 := h.2.2.2.2.2.2.2.2.2.2.2.2.2.2.2.2.2.2.2.2.2.2.2.2.2.2.2.2.2.2.1
theorem b_c5 {M : j_M} {b : Nat} (h : sh_b b M.2.2) : (j_S M 16).1 = 10 + 6 := h.2.2.2.2.2.2.2.2.2.2.2.2.2.2.2.2.2.2.2.2.2.2.2.2.2.2.2.2.2.2.2
theorem b_n {M : j_M} {b i : Nat} (h : sh_b b M.2.2) (hi : i < 9) : b + i < j_N M := Nat.lt_of_lt_of_le (Nat.add_lt_add_left hi b) h.1.1
theorem b_no {M : j_M} {b : Nat} (h : sh_b b M.2.2) : b < j_N M := Nat.lt_of_lt_of_le (Nat.lt_add_of_pos_right (by decide)) h.1.1
theorem b_kn {M : j_M} {b a : Nat} (h : sh_b b M.2.2) (ha : a < 17) : a < j_N M := Nat.lt_of_lt_of_le ha h.1.2
def sh_x (q : ((Nat → Nat → Option Nat) × (Nat → Nat × Nat) × Nat)) : Prop := 35 ≤ q.2.2 ∧ (q.2.1 0).1 = 10 + 9 ∧ q.2.1 1 = (5, 2) ∧ q.1 0 2 = some 1 ∧ q.2.1 2 = (1, 22) ∧ q.1 0 3 = some 2 ∧ (q.2.1 3).1 = 10 + 4 ∧ q.1 0 4 = some 3 ∧ q.2.1 4 = (1, 4) ∧ q.1 3 0 = some 4 ∧ q.2.1 5 = (1, 7) ∧ q.1 3 1 = some 5 ∧ q.2.1 6 = (1, 7) ∧ q.1 3 2 = some 6 ∧ (q.2.1 7).1 = 10 + 7 ∧ q.1 0 5 = some 7 ∧ q.2.1 8 = (4, 150) ∧ q.1 7 0 = some 8 ∧ q.2.1 9 = (2, 10) ∧ q.1 0 6 = some 9 ∧ q.1 0 0 = some 17 ∧ q.1 0 1 = some 26 ∧ sh_b 17 q ∧ sh_b 26 q
theorem x_o {M : j_M} (h : sh_x M.2.2) : (j_S M 0).1 = 10 + 9 := h.2.1
theorem x_s1 {M : j_M} (h : sh_x M.2.2) : j_S M 1 = (5, 2) := h.2.2.1
theorem x_r2 {M : j_M} (h : sh_x M.2.2) : j_R M 0 2 = some 1 := h.2.2.2.1
theorem x_s2 {M : j_M} (h : sh_x M.2.2) : j_S M 2 = (1, 22) := h.2.2.2.2.1
theorem x_r3 {M : j_M} (h : sh_x M.2.2) : j_R M 0 3 = some 2 := h.2.2.2.2.2.1
theorem x_o3 {M : j_M} (h : sh_x M.2.2) : (j_S M 3).1 = 10 + 4 := h.2.2.2.2.2.2.1
theorem x_r4 {M : j_M} (h : sh_x M.2.2) : j_R M 0 4 = some 3 := h.2.2.2.2.2.2.2.1
theorem x_s4 {M : j_M} (h : sh_x M.2.2) : j_S M 4 = (1, 4) := h.2.2.2.2.2.2.2.2.1
theorem x_p0 {M : j_M} (h : sh_x M.2.2) : j_R M 3 0 = some 4 := h.2.2.2.2.2.2.2.2.2.1
theorem x_s5 {M : j_M} (h : sh_x M.2.2) : j_S M 5 = (1, 7) := h.2.2.2.2.2.2.2.2.2.2.1
theorem x_p1 {M : j_M} (h : sh_x M.2.2) : j_R M 3 1 = some 5 := h.2.2.2.2.2.2.2.2.2.2.2.1
theorem x_s6 {M : j_M} (h : sh_x M.2.2) : j_S M 6 = (1, 7) := h.2.2.2.2.2.2.2.2.2.2.2.2.1
theorem x_p2 {M : j_M} (h : sh_x M.2.2) : j_R M 3 2 = some 6 := h.2.2.2.2.2.2.2.2.2.2.2.2.2.1
theorem x_o7 {M : j_M} (h : sh_x M.2.2) : (j_S M 7).1 = 10 + 7 := h.2.2.2.2.2.2.2.2.2.2.2.2.2.2.1
theorem x_r5 {M : j_M} (h : sh_x M.2.2) : j_R M 0 5 = some 7 := h.2.2.2.2.2.2.2.2.2.2.2.2.2.2.2.1
theorem x_s8 {M : j_M} (h : sh_x M.2.2) : j_S M 8 = (4, 150) := h.2.2.2.2.2.2.2.2.2.2.2.2.2.2.2.2.1
theorem x_t0 {M : j_M} (h : sh_x M.2.2) : j_R M 7 0 = some 8 := h.2.2.2.2.2.2.2.2.2.2.2.2.2.2.2.2.2.1
theorem x_s9 {M : j_M} (h : sh_x M.2.2) : j_S M 9 = (2, 10) := h.2.2.2.2.2.2.2.2.2.2.2.2.2.2.2.2.2.2.1
theorem x_r6 {M : j_M} (h : sh_x M.2.2) : j_R M 0 6 = some 9 := h.2.2.2.2.2.2.2.2.2.2.2.2.2.2.2.2.2.2.2.1
theorem x_r0 {M : j_M} (h : sh_x M.2.2) : j_R M 0 0 = some 17 := h.2.2.2.2.2.2.2.2.2.2.2.2.2.2.2.2.2.2.2.2.1
theorem x_r1 {M : j_M} (h : sh_x M.2.2) : j_R M 0 1 = some 26 := h.2.2.2.2.2.2.2.2.2.2.2.2.2.2.2.2.2.2.2.2.2.1
theorem x_b17 {M : j_M} (h : sh_x M.2.2) : sh_b 17 M.2.2 := h.2.2.2.2.2.2.2.2.2.2.2.2.2.2.2.2.2.2.2.2.2.2.1
theorem x_b26 {M : j_M} (h : sh_x M.2.2) : sh_b 26 M.2.2 := h.2.2.2.2.2.2.2.2.2.2.2.2.2.2.2.2.2.2.2.2.2.2.2
theorem x_n {M : j_M} {a : Nat} (h : sh_x M.2.2) (ha : a < 35) : a < j_N M := Nat.lt_of_lt_of_le ha h.1
section
variable {l : Launch} {G : j_G} {md : j_Md} {R : Room} {cs mcs : Nat × Nat} {Po : Option Value → j_M → Prop} {pc pc' : Nat} {lv lv' : List (Nat × Value)} {st : List Value} {M M1 : j_M}
theorem j_kq {v : Value} {rest : List Value} (kk : JJ l G md R cs mcs Po pc' lv (v :: rest) M1) : ∀ (w : Option Value) (M' : j_M), po (some v) M1 w M' → JJ l G md R (cs.1 + (0, 0).1, cs.2 + (0, 0).2) mcs Po pc' lv (w.toList ++ rest) M' := by
  intro w M' h
  obtain ⟨rfl, rfl⟩ := h
  exact kk
theorem j_kv {rest : List Value} (kk : JJ l G md R cs mcs Po pc' lv rest M1) : ∀ (w : Option Value) (M' : j_M), po none M1 w M' → JJ l G md R (cs.1 + (0, 0).1, cs.2 + (0, 0).2) mcs Po pc' lv (w.toList ++ rest) M' := by
  intro w M' h
  obtain ⟨rfl, rfl⟩ := h
  exact kk
end

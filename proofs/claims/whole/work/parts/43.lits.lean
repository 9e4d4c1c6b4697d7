/-! Literals beside numbers. -/
theorem q2a {a : Nat} : (2 : Int32) + n32 a = n32 (2 + a) := n32_add
theorem q2b {a : Nat} : n32 a + (2 : Int32) = n32 (a + 2) := n32_add
theorem q2m {a : Nat} : (2 : Int32) * n32 a = n32 (2 * a) := n32_mul
theorem q2l {a : Nat} (h : a < 2147483648) : (n32 a < (2 : Int32)) = (a < 2) := n32_ltE h (by decide)
theorem q2g {a : Nat} (h : a < 2147483648) : ((2 : Int32) < n32 a) = (2 < a) := n32_ltE (by decide) h
theorem q2r {a : Nat} (h : a < 2147483648) : (n32 a ≤ (2 : Int32)) = (a ≤ 2) := n32_leE h (by decide)
theorem q2s {a : Nat} (h : a < 2147483648) : ((2 : Int32) ≤ n32 a) = (2 ≤ a) := n32_leE (by decide) h
theorem q2e {a : Nat} (h : a < 2147483648) : (n32 a = (2 : Int32)) = (a = 2) := n32_eqE h (by decide)
theorem q3a {a : Nat} : (3 : Int32) + n32 a = n32 (3 + a) := n32_add
theorem q3b {a : Nat} : n32 a + (3 : Int32) = n32 (a + 3) := n32_add
theorem q3m {a : Nat} : (3 : Int32) * n32 a = n32 (3 * a) := n32_mul
theorem q3l {a : Nat} (h : a < 2147483648) : (n32 a < (3 : Int32)) = (a < 3) := n32_ltE h (by decide)
theorem q3g {a : Nat} (h : a < 2147483648) : ((3 : Int32) < n32 a) = (3 < a) := n32_ltE (by decide) h
theorem q3r {a : Nat} (h : a < 2147483648) : (n32 a ≤ (3 : Int32)) = (a ≤ 3) := n32_leE h (by decide)
theorem q3s {a : Nat} (h : a < 2147483648) : ((3 : Int32) ≤ n32 a) = (3 ≤ a) := n32_leE (by decide) h
theorem q3e {a : Nat} (h : a < 2147483648) : (n32 a = (3 : Int32)) = (a = 3) := n32_eqE h (by decide)
theorem q4a {a : Nat} : (4 : Int32) + n32 a = n32 (4 + a) := n32_add
theorem q4b {a : Nat} : n32 a + (4 : Int32) = n32 (a + 4) := n32_add
theorem q4m {a : Nat} : (4 : Int32) * n32 a = n32 (4 * a) := n32_mul
theorem q4l {a : Nat} (h : a < 2147483648) : (n32 a < (4 : Int32)) = (a < 4) := n32_ltE h (by decide)
theorem q4g {a : Nat} (h : a < 2147483648) : ((4 : Int32) < n32 a) = (4 < a) := n32_ltE (by decide) h
theorem q4r {a : Nat} (h : a < 2147483648) : (n32 a ≤ (4 : Int32)) = (a ≤ 4) := n32_leE h (by decide)
theorem q4s {a : Nat} (h : a < 2147483648) : ((4 : Int32) ≤ n32 a) = (4 ≤ a) := n32_leE (by decide) h
theorem q4e {a : Nat} (h : a < 2147483648) : (n32 a = (4 : Int32)) = (a = 4) := n32_eqE h (by decide)
theorem q5a {a : Nat} : (5 : Int32) + n32 a = n32 (5 + a) := n32_add
theorem q5b {a : Nat} : n32 a + (5 : Int32) = n32 (a + 5) := n32_add
theorem q5m {a : Nat} : (5 : Int32) * n32 a = n32 (5 * a) := n32_mul
theorem q5l {a : Nat} (h : a < 2147483648) : (n32 a < (5 : Int32)) = (a < 5) := n32_ltE h (by decide)
theorem q5g {a : Nat} (h : a < 2147483648) : ((5 : Int32) < n32 a) = (5 < a) := n32_ltE (by decide) h
theorem q5r {a : Nat} (h : a < 2147483648) : (n32 a ≤ (5 : Int32)) = (a ≤ 5) := n32_leE h (by decide)
theorem q5s {a : Nat} (h : a < 2147483648) : ((5 : Int32) ≤ n32 a) = (5 ≤ a) := n32_leE (by decide) h
theorem q5e {a : Nat} (h : a < 2147483648) : (n32 a = (5 : Int32)) = (a = 5) := n32_eqE h (by decide)
theorem q6a {a : Nat} : (6 : Int32) + n32 a = n32 (6 + a) := n32_add
theorem q6b {a : Nat} : n32 a + (6 : Int32) = n32 (a + 6) := n32_add
theorem q6m {a : Nat} : (6 : Int32) * n32 a = n32 (6 * a) := n32_mul
theorem q6l {a : Nat} (h : a < 2147483648) : (n32 a < (6 : Int32)) = (a < 6) := n32_ltE h (by decide)
theorem q6g {a : Nat} (h : a < 2147483648) : ((6 : Int32) < n32 a) = (6 < a) := n32_ltE (by decide) h
theorem q6r {a : Nat} (h : a < 2147483648) : (n32 a ≤ (6 : Int32)) = (a ≤ 6) := n32_leE h (by decide)
theorem q6s {a : Nat} (h : a < 2147483648) : ((6 : Int32) ≤ n32 a) = (6 ≤ a) := n32_leE (by decide) h
theorem q6e {a : Nat} (h : a < 2147483648) : (n32 a = (6 : Int32)) = (a = 6) := n32_eqE h (by decide)
theorem q7a {a : Nat} : (7 : Int32) + n32 a = n32 (7 + a) := n32_add
theorem q7b {a : Nat} : n32 a + (7 : Int32) = n32 (a + 7) := n32_add
theorem q7m {a : Nat} : (7 : Int32) * n32 a = n32 (7 * a) := n32_mul
theorem q7l {a : Nat} (h : a < 2147483648) : (n32 a < (7 : Int32)) = (a < 7) := n32_ltE h (by decide)
theorem q7g {a : Nat} (h : a < 2147483648) : ((7 : Int32) < n32 a) = (7 < a) := n32_ltE (by decide) h
theorem q7r {a : Nat} (h : a < 2147483648) : (n32 a ≤ (7 : Int32)) = (a ≤ 7) := n32_leE h (by decide)
theorem q7s {a : Nat} (h : a < 2147483648) : ((7 : Int32) ≤ n32 a) = (7 ≤ a) := n32_leE (by decide) h
theorem q7e {a : Nat} (h : a < 2147483648) : (n32 a = (7 : Int32)) = (a = 7) := n32_eqE h (by decide)
theorem q8a {a : Nat} : (8 : Int32) + n32 a = n32 (8 + a) := n32_add
theorem q8b {a : Nat} : n32 a + (8 : Int32) = n32 (a + 8) := n32_add
theorem q8m {a : Nat} : (8 : Int32) * n32 a = n32 (8 * a) := n32_mul
theorem q8l {a : Nat} (h : a < 2147483648) : (n32 a < (8 : Int32)) = (a < 8) := n32_ltE h (by decide)
theorem q8g {a : Nat} (h : a < 2147483648) : ((8 : Int32) < n32 a) = (8 < a) := n32_ltE (by decide) h
theorem q8r {a : Nat} (h : a < 2147483648) : (n32 a ≤ (8 : Int32)) = (a ≤ 8) := n32_leE h (by decide)
theorem q8s {a : Nat} (h : a < 2147483648) : ((8 : Int32) ≤ n32 a) = (8 ≤ a) := n32_leE (by decide) h
theorem q8e {a : Nat} (h : a < 2147483648) : (n32 a = (8 : Int32)) = (a = 8) := n32_eqE h (by decide)
theorem q9a {a : Nat} : (9 : Int32) + n32 a = n32 (9 + a) := n32_add
theorem q9b {a : Nat} : n32 a + (9 : Int32) = n32 (a + 9) := n32_add
theorem q9m {a : Nat} : (9 : Int32) * n32 a = n32 (9 * a) := n32_mul
theorem q9l {a : Nat} (h : a < 2147483648) : (n32 a < (9 : Int32)) = (a < 9) := n32_ltE h (by decide)
theorem q9g {a : Nat} (h : a < 2147483648) : ((9 : Int32) < n32 a) = (9 < a) := n32_ltE (by decide) h
theorem q9r {a : Nat} (h : a < 2147483648) : (n32 a ≤ (9 : Int32)) = (a ≤ 9) := n32_leE h (by decide)
theorem q9s {a : Nat} (h : a < 2147483648) : ((9 : Int32) ≤ n32 a) = (9 ≤ a) := n32_leE (by decide) h
theorem q9e {a : Nat} (h : a < 2147483648) : (n32 a = (9 : Int32)) = (a = 9) := n32_eqE h (by decide)
theorem q10a {a : Nat} : (10 : Int32) + n32 a = n32 (10 + a) := n32_add
theorem q10b {a : Nat} : n32 a + (10 : Int32) = n32 (a + 10) := n32_add
theorem q10m {a : Nat} : (10 : Int32) * n32 a = n32 (10 * a) := n32_mul
theorem q10l {a : Nat} (h : a < 2147483648) : (n32 a < (10 : Int32)) = (a < 10) := n32_ltE h (by decide)
theorem q10g {a : Nat} (h : a < 2147483648) : ((10 : Int32) < n32 a) = (10 < a) := n32_ltE (by decide) h
theorem q10r {a : Nat} (h : a < 2147483648) : (n32 a ≤ (10 : Int32)) = (a ≤ 10) := n32_leE h (by decide)
theorem q10s {a : Nat} (h : a < 2147483648) : ((10 : Int32) ≤ n32 a) = (10 ≤ a) := n32_leE (by decide) h
theorem q10e {a : Nat} (h : a < 2147483648) : (n32 a = (10 : Int32)) = (a = 10) := n32_eqE h (by decide)
theorem q11a {a : Nat} : (11 : Int32) + n32 a = n32 (11 + a) := n32_add
theorem q11b {a : Nat} : n32 a + (11 : Int32) = n32 (a + 11) := n32_add
theorem q11m {a : Nat} : (11 : Int32) * n32 a = n32 (11 * a) := n32_mul
theorem q11l {a : Nat} (h : a < 2147483648) : (n32 a < (11 : Int32)) = (a < 11) := n32_ltE h (by decide)
theorem q11g {a : Nat} (h : a < 2147483648) : ((11 : Int32) < n32 a) = (11 < a) := n32_ltE (by decide) h
theorem q11r {a : Nat} (h : a < 2147483648) : (n32 a ≤ (11 : Int32)) = (a ≤ 11) := n32_leE h (by decide)
theorem q11s {a : Nat} (h : a < 2147483648) : ((11 : Int32) ≤ n32 a) = (11 ≤ a) := n32_leE (by decide) h
theorem q11e {a : Nat} (h : a < 2147483648) : (n32 a = (11 : Int32)) = (a = 11) := n32_eqE h (by decide)
theorem q12a {a : Nat} : (12 : Int32) + n32 a = n32 (12 + a) := n32_add
theorem q12b {a : Nat} : n32 a + (12 : Int32) = n32 (a + 12) := n32_add
theorem q12m {a : Nat} : (12 : Int32) * n32 a = n32 (12 * a) := n32_mul
theorem q12l {a : Nat} (h : a < 2147483648) : (n32 a < (12 : Int32)) = (a < 12) := n32_ltE h (by decide)
theorem q12g {a : Nat} (h : a < 2147483648) : ((12 : Int32) < n32 a) = (12 < a) := n32_ltE (by decide) h
theorem q12r {a : Nat} (h : a < 2147483648) : (n32 a ≤ (12 : Int32)) = (a ≤ 12) := n32_leE h (by decide)
theorem q12s {a : Nat} (h : a < 2147483648) : ((12 : Int32) ≤ n32 a) = (12 ≤ a) := n32_leE (by decide) h
theorem q12e {a : Nat} (h : a < 2147483648) : (n32 a = (12 : Int32)) = (a = 12) := n32_eqE h (by decide)
theorem q13a {a : Nat} : (13 : Int32) + n32 a = n32 (13 + a) := n32_add
theorem q13b {a : Nat} : n32 a + (13 : Int32) = n32 (a + 13) := n32_add
theorem q13m {a : Nat} : (13 : Int32) * n32 a = n32 (13 * a) := n32_mul
theorem q13l {a : Nat} (h : a < 2147483648) : (n32 a < (13 : Int32)) = (a < 13) := n32_ltE h (by decide)
theorem q13g {a : Nat} (h : a < 2147483648) : ((13 : Int32) < n32 a) = (13 < a) := n32_ltE (by decide) h
theorem q13r {a : Nat} (h : a < 2147483648) : (n32 a ≤ (13 : Int32)) = (a ≤ 13) := n32_leE h (by decide)
theorem q13s {a : Nat} (h : a < 2147483648) : ((13 : Int32) ≤ n32 a) = (13 ≤ a) := n32_leE (by decide) h
theorem q13e {a : Nat} (h : a < 2147483648) : (n32 a = (13 : Int32)) = (a = 13) := n32_eqE h (by decide)
theorem q14a {a : Nat} : (14 : Int32) + n32 a = n32 (14 + a) := n32_add
theorem q14b {a : Nat} : n32 a + (14 : Int32) = n32 (a + 14) := n32_add
theorem q14m {a : Nat} : (14 : Int32) * n32 a = n32 (14 * a) := n32_mul
theorem q14l {a : Nat} (h : a < 2147483648) : (n32 a < (14 : Int32)) = (a < 14) := n32_ltE h (by decide)
theorem q14g {a : Nat} (h : a < 2147483648) : ((14 : Int32) < n32 a) = (14 < a) := n32_ltE (by decide) h
theorem q14r {a : Nat} (h : a < 2147483648) : (n32 a ≤ (14 : Int32)) = (a ≤ 14) := n32_leE h (by decide)
theorem q14s {a : Nat} (h : a < 2147483648) : ((14 : Int32) ≤ n32 a) = (14 ≤ a) := n32_leE (by decide) h
theorem q14e {a : Nat} (h : a < 2147483648) : (n32 a = (14 : Int32)) = (a = 14) := n32_eqE h (by decide)
theorem q15a {a : Nat} : (15 : Int32) + n32 a = n32 (15 + a) := n32_add
theorem q15b {a : Nat} : n32 a + (15 : Int32) = n32 (a + 15) := n32_add
theorem q15m {a : Nat} : (15 : Int32) * n32 a = n32 (15 * a) := n32_mul
theorem q15l {a : Nat} (h : a < 2147483648) : (n32 a < (15 : Int32)) = (a < 15) := n32_ltE h (by decide)
theorem q15g {a : Nat} (h : a < 2147483648) : ((15 : Int32) < n32 a) = (15 < a) := n32_ltE (by decide) h
theorem q15r {a : Nat} (h : a < 2147483648) : (n32 a ≤ (15 : Int32)) = (a ≤ 15) := n32_leE h (by decide)
theorem q15s {a : Nat} (h : a < 2147483648) : ((15 : Int32) ≤ n32 a) = (15 ≤ a) := n32_leE (by decide) h
theorem q15e {a : Nat} (h : a < 2147483648) : (n32 a = (15 : Int32)) = (a = 15) := n32_eqE h (by decide)
theorem q16a {a : Nat} : (16 : Int32) + n32 a = n32 (16 + a) := n32_add
theorem q16b {a : Nat} : n32 a + (16 : Int32) = n32 (a + 16) := n32_add
theorem q16m {a : Nat} : (16 : Int32) * n32 a = n32 (16 * a) := n32_mul
theorem q16l {a : Nat} (h : a < 2147483648) : (n32 a < (16 : Int32)) = (a < 16) := n32_ltE h (by decide)
theorem q16g {a : Nat} (h : a < 2147483648) : ((16 : Int32) < n32 a) = (16 < a) := n32_ltE (by decide) h
theorem q16r {a : Nat} (h : a < 2147483648) : (n32 a ≤ (16 : Int32)) = (a ≤ 16) := n32_leE h (by decide)
theorem q16s {a : Nat} (h : a < 2147483648) : ((16 : Int32) ≤ n32 a) = (16 ≤ a) := n32_leE (by decide) h
theorem q16e {a : Nat} (h : a < 2147483648) : (n32 a = (16 : Int32)) = (a = 16) := n32_eqE h (by decide)
theorem q17a {a : Nat} : (17 : Int32) + n32 a = n32 (17 + a) := n32_add
theorem q17b {a : Nat} : n32 a + (17 : Int32) = n32 (a + 17) := n32_add
theorem q17m {a : Nat} : (17 : Int32) * n32 a = n32 (17 * a) := n32_mul
theorem q17l {a : Nat} (h : a < 2147483648) : (n32 a < (17 : Int32)) = (a < 17) := n32_ltE h (by decide)
theorem q17g {a : Nat} (h : a < 2147483648) : ((17 : Int32) < n32 a) = (17 < a) := n32_ltE (by decide) h
theorem q17r {a : Nat} (h : a < 2147483648) : (n32 a ≤ (17 : Int32)) = (a ≤ 17) := n32_leE h (by decide)
theorem q17s {a : Nat} (h : a < 2147483648) : ((17 : Int32) ≤ n32 a) = (17 ≤ a) := n32_leE (by decide) h
theorem q17e {a : Nat} (h : a < 2147483648) : (n32 a = (17 : Int32)) = (a = 17) := n32_eqE h (by decide)
theorem q18a {a : Nat} : (18 : Int32) + n32 a = n32 (18 + a) := n32_add
theorem q18b {a : Nat} : n32 a + (18 : Int32) = n32 (a + 18) := n32_add
theorem q18m {a : Nat} : (18 : Int32) * n32 a = n32 (18 * a) := n32_mul
theorem q18l {a : Nat} (h : a < 2147483648) : (n32 a < (18 : Int32)) = (a < 18) := n32_ltE h (by decide)
theorem q18g {a : Nat} (h : a < 2147483648) : ((18 : Int32) < n32 a) = (18 < a) := n32_ltE (by decide) h
theorem q18r {a : Nat} (h : a < 2147483648) : (n32 a ≤ (18 : Int32)) = (a ≤ 18) := n32_leE h (by decide)
theorem q18s {a : Nat} (h : a < 2147483648) : ((18 : Int32) ≤ n32 a) = (18 ≤ a) := n32_leE (by decide) h
theorem q18e {a : Nat} (h : a < 2147483648) : (n32 a = (18 : Int32)) = (a = 18) := n32_eqE h (by decide)
theorem q19a {a : Nat} : (19 : Int32) + n32 a = n32 (19 + a) := n32_add
theorem q19b {a : Nat} : n32 a + (19 : Int32) = n32 (a + 19) := n32_add
theorem q19m {a : Nat} : (19 : Int32) * n32 a = n32 (19 * a) := n32_mul
theorem q19l {a : Nat} (h : a < 2147483648) : (n32 a < (19 : Int32)) = (a < 19) := n32_ltE h (by decide)
theorem q19g {a : Nat} (h : a < 2147483648) : ((19 : Int32) < n32 a) = (19 < a) := n32_ltE (by decide) h
theorem q19r {a : Nat} (h : a < 2147483648) : (n32 a ≤ (19 : Int32)) = (a ≤ 19) := n32_leE h (by decide)
theorem q19s {a : Nat} (h : a < 2147483648) : ((19 : Int32) ≤ n32 a) = (19 ≤ a) := n32_leE (by decide) h
theorem q19e {a : Nat} (h : a < 2147483648) : (n32 a = (19 : Int32)) = (a = 19) := n32_eqE h (by decide)
theorem q20a {a : Nat} : (20 : Int32) + n32 a = n32 (20 + a) := n32_add
theorem q20b {a : Nat} : n32 a + (20 : Int32) = n32 (a + 20) := n32_add
theorem q20m {a : Nat} : (20 : Int32) * n32 a = n32 (20 * a) := n32_mul
theorem q20l {a : Nat} (h : a < 2147483648) : (n32 a < (20 : Int32)) = (a < 20) := n32_ltE h (by decide)
theorem q20g {a : Nat} (h : a < 2147483648) : ((20 : Int32) < n32 a) = (20 < a) := n32_ltE (by decide) h
theorem q20r {a : Nat} (h : a < 2147483648) : (n32 a ≤ (20 : Int32)) = (a ≤ 20) := n32_leE h (by decide)
theorem q20s {a : Nat} (h : a < 2147483648) : ((20 : Int32) ≤ n32 a) = (20 ≤ a) := n32_leE (by decide) h
theorem q20e {a : Nat} (h : a < 2147483648) : (n32 a = (20 : Int32)) = (a = 20) := n32_eqE h (by decide)
theorem q21a {a : Nat} : (21 : Int32) + n32 a = n32 (21 + a) := n32_add
theorem q21b {a : Nat} : n32 a + (21 : Int32) = n32 (a + 21) := n32_add
theorem q21m {a : Nat} : (21 : Int32) * n32 a = n32 (21 * a) := n32_mul
theorem q21l {a : Nat} (h : a < 2147483648) : (n32 a < (21 : Int32)) = (a < 21) := n32_ltE h (by decide)
theorem q21g {a : Nat} (h : a < 2147483648) : ((21 : Int32) < n32 a) = (21 < a) := n32_ltE (by decide) h
theorem q21r {a : Nat} (h : a < 2147483648) : (n32 a ≤ (21 : Int32)) = (a ≤ 21) := n32_leE h (by decide)
theorem q21s {a : Nat} (h : a < 2147483648) : ((21 : Int32) ≤ n32 a) = (21 ≤ a) := n32_leE (by decide) h
theorem q21e {a : Nat} (h : a < 2147483648) : (n32 a = (21 : Int32)) = (a = 21) := n32_eqE h (by decide)
theorem q22a {a : Nat} : (22 : Int32) + n32 a = n32 (22 + a) := n32_add
theorem q22b {a : Nat} : n32 a + (22 : Int32) = n32 (a + 22) := n32_add
theorem q22m {a : Nat} : (22 : Int32) * n32 a = n32 (22 * a) := n32_mul
theorem q22l {a : Nat} (h : a < 2147483648) : (n32 a < (22 : Int32)) = (a < 22) := n32_ltE h (by decide)
theorem q22g {a : Nat} (h : a < 2147483648) : ((22 : Int32) < n32 a) = (22 < a) := n32_ltE (by decide) h
theorem q22r {a : Nat} (h : a < 2147483648) : (n32 a ≤ (22 : Int32)) = (a ≤ 22) := n32_leE h (by decide)
theorem q22s {a : Nat} (h : a < 2147483648) : ((22 : Int32) ≤ n32 a) = (22 ≤ a) := n32_leE (by decide) h
theorem q22e {a : Nat} (h : a < 2147483648) : (n32 a = (22 : Int32)) = (a = 22) := n32_eqE h (by decide)
theorem q23a {a : Nat} : (23 : Int32) + n32 a = n32 (23 + a) := n32_add
theorem q23b {a : Nat} : n32 a + (23 : Int32) = n32 (a + 23) := n32_add
theorem q23m {a : Nat} : (23 : Int32) * n32 a = n32 (23 * a) := n32_mul
theorem q23l {a : Nat} (h : a < 2147483648) : (n32 a < (23 : Int32)) = (a < 23) := n32_ltE h (by decide)
theorem q23g {a : Nat} (h : a < 2147483648) : ((23 : Int32) < n32 a) = (23 < a) := n32_ltE (by decide) h
theorem q23r {a : Nat} (h : a < 2147483648) : (n32 a ≤ (23 : Int32)) = (a ≤ 23) := n32_leE h (by decide)
theorem q23s {a : Nat} (h : a < 2147483648) : ((23 : Int32) ≤ n32 a) = (23 ≤ a) := n32_leE (by decide) h
theorem q23e {a : Nat} (h : a < 2147483648) : (n32 a = (23 : Int32)) = (a = 23) := n32_eqE h (by decide)
theorem q24a {a : Nat} : (24 : Int32) + n32 a = n32 (24 + a) := n32_add
theorem q24b {a : Nat} : n32 a + (24 : Int32) = n32 (a + 24) := n32_add
theorem q24m {a : Nat} : (24 : Int32) * n32 a = n32 (24 * a) := n32_mul
theorem q24l {a : Nat} (h : a < 2147483648) : (n32 a < (24 : Int32)) = (a < 24) := n32_ltE h (by decide)
theorem q24g {a : Nat} (h : a < 2147483648) : ((24 : Int32) < n32 a) = (24 < a) := n32_ltE (by decide) h
theorem q24r {a : Nat} (h : a < 2147483648) : (n32 a ≤ (24 : Int32)) = (a ≤ 24) := n32_leE h (by decide)
theorem q24s {a : Nat} (h : a < 2147483648) : ((24 : Int32) ≤ n32 a) = (24 ≤ a) := n32_leE (by decide) h
theorem q24e {a : Nat} (h : a < 2147483648) : (n32 a = (24 : Int32)) = (a = 24) := n32_eqE h (by decide)
theorem q25a {a : Nat} : (25 : Int32) + n32 a = n32 (25 + a) := n32_add
theorem q25b {a : Nat} : n32 a + (25 : Int32) = n32 (a + 25) := n32_add
theorem q25m {a : Nat} : (25 : Int32) * n32 a = n32 (25 * a) := n32_mul
theorem q25l {a : Nat} (h : a < 2147483648) : (n32 a < (25 : Int32)) = (a < 25) := n32_ltE h (by decide)
theorem q25g {a : Nat} (h : a < 2147483648) : ((25 : Int32) < n32 a) = (25 < a) := n32_ltE (by decide) h
theorem q25r {a : Nat} (h : a < 2147483648) : (n32 a ≤ (25 : Int32)) = (a ≤ 25) := n32_leE h (by decide)
theorem q25s {a : Nat} (h : a < 2147483648) : ((25 : Int32) ≤ n32 a) = (25 ≤ a) := n32_leE (by decide) h
theorem q25e {a : Nat} (h : a < 2147483648) : (n32 a = (25 : Int32)) = (a = 25) := n32_eqE h (by decide)
theorem q26a {a : Nat} : (26 : Int32) + n32 a = n32 (26 + a) := n32_add
theorem q26b {a : Nat} : n32 a + (26 : Int32) = n32 (a + 26) := n32_add
theorem q26m {a : Nat} : (26 : Int32) * n32 a = n32 (26 * a) := n32_mul
theorem q26l {a : Nat} (h : a < 2147483648) : (n32 a < (26 : Int32)) = (a < 26) := n32_ltE h (by decide)
theorem q26g {a : Nat} (h : a < 2147483648) : ((26 : Int32) < n32 a) = (26 < a) := n32_ltE (by decide) h
theorem q26r {a : Nat} (h : a < 2147483648) : (n32 a ≤ (26 : Int32)) = (a ≤ 26) := n32_leE h (by decide)
theorem q26s {a : Nat} (h : a < 2147483648) : ((26 : Int32) ≤ n32 a) = (26 ≤ a) := n32_leE (by decide) h
theorem q26e {a : Nat} (h : a < 2147483648) : (n32 a = (26 : Int32)) = (a = 26) := n32_eqE h (by decide)
theorem q27a {a : Nat} : (27 : Int32) + n32 a = n32 (27 + a) := n32_add
theorem q27b {a : Nat} : n32 a + (27 : Int32) = n32 (a + 27) := n32_add
theorem q27m {a : Nat} : (27 : Int32) * n32 a = n32 (27 * a) := n32_mul
theorem q27l {a : Nat} (h : a < 2147483648) : (n32 a < (27 : Int32)) = (a < 27) := n32_ltE h (by decide)
theorem q27g {a : Nat} (h : a < 2147483648) : ((27 : Int32) < n32 a) = (27 < a) := n32_ltE (by decide) h
theorem q27r {a : Nat} (h : a < 2147483648) : (n32 a ≤ (27 : Int32)) = (a ≤ 27) := n32_leE h (by decide)
theorem q27s {a : Nat} (h : a < 2147483648) : ((27 : Int32) ≤ n32 a) = (27 ≤ a) := n32_leE (by decide) h
theorem q27e {a : Nat} (h : a < 2147483648) : (n32 a = (27 : Int32)) = (a = 27) := n32_eqE h (by decide)
theorem q28a {a : Nat} : (28 : Int32) + n32 a = n32 (28 + a) := n32_add
theorem q28b {a : Nat} : n32 a + (28 : Int32) = n32 (a + 28) := n32_add
theorem q28m {a : Nat} : (28 : Int32) * n32 a = n32 (28 * a) := n32_mul
theorem q28l {a : Nat} (h : a < 2147483648) : (n32 a < (28 : Int32)) = (a < 28) := n32_ltE h (by decide)
theorem q28g {a : Nat} (h : a < 2147483648) : ((28 : Int32) < n32 a) = (28 < a) := n32_ltE (by decide) h
theorem q28r {a : Nat} (h : a < 2147483648) : (n32 a ≤ (28 : Int32)) = (a ≤ 28) := n32_leE h (by decide)
theorem q28s {a : Nat} (h : a < 2147483648) : ((28 : Int32) ≤ n32 a) = (28 ≤ a) := n32_leE (by decide) h
theorem q28e {a : Nat} (h : a < 2147483648) : (n32 a = (28 : Int32)) = (a = 28) := n32_eqE h (by decide)
theorem q29a {a : Nat} : (29 : Int32) + n32 a = n32 (29 + a) := n32_add
theorem q29b {a : Nat} : n32 a + (29 : Int32) = n32 (a + 29) := n32_add
theorem q29m {a : Nat} : (29 : Int32) * n32 a = n32 (29 * a) := n32_mul
theorem q29l {a : Nat} (h : a < 2147483648) : (n32 a < (29 : Int32)) = (a < 29) := n32_ltE h (by decide)
theorem q29g {a : Nat} (h : a < 2147483648) : ((29 : Int32) < n32 a) = (29 < a) := n32_ltE (by decide) h
theorem q29r {a : Nat} (h : a < 2147483648) : (n32 a ≤ (29 : Int32)) = (a ≤ 29) := n32_leE h (by decide)
theorem q29s {a : Nat} (h : a < 2147483648) : ((29 : Int32) ≤ n32 a) = (29 ≤ a) := n32_leE (by decide) h
theorem q29e {a : Nat} (h : a < 2147483648) : (n32 a = (29 : Int32)) = (a = 29) := n32_eqE h (by decide)
theorem q30a {a : Nat} : (30 : Int32) + n32 a = n32 (30 + a) := n32_add
theorem q30b {a : Nat} : n32 a + (30 : Int32) = n32 (a + 30) := n32_add
theorem q30m {a : Nat} : (30 : Int32) * n32 a = n32 (30 * a) := n32_mul
theorem q30l {a : Nat} (h : a < 2147483648) : (n32 a < (30 : Int32)) = (a < 30) := n32_ltE h (by decide)
theorem q30g {a : Nat} (h : a < 2147483648) : ((30 : Int32) < n32 a) = (30 < a) := n32_ltE (by decide) h
theorem q30r {a : Nat} (h : a < 2147483648) : (n32 a ≤ (30 : Int32)) = (a ≤ 30) := n32_leE h (by decide)
theorem q30s {a : Nat} (h : a < 2147483648) : ((30 : Int32) ≤ n32 a) = (30 ≤ a) := n32_leE (by decide) h
theorem q30e {a : Nat} (h : a < 2147483648) : (n32 a = (30 : Int32)) = (a = 30) := n32_eqE h (by decide)
theorem q31a {a : Nat} : (31 : Int32) + n32 a = n32 (31 + a) := n32_add
theorem q31b {a : Nat} : n32 a + (31 : Int32) = n32 (a + 31) := n32_add
theorem q31m {a : Nat} : (31 : Int32) * n32 a = n32 (31 * a) := n32_mul
theorem q31l {a : Nat} (h : a < 2147483648) : (n32 a < (31 : Int32)) = (a < 31) := n32_ltE h (by decide)
theorem q31g {a : Nat} (h : a < 2147483648) : ((31 : Int32) < n32 a) = (31 < a) := n32_ltE (by decide) h
theorem q31r {a : Nat} (h : a < 2147483648) : (n32 a ≤ (31 : Int32)) = (a ≤ 31) := n32_leE h (by decide)
theorem q31s {a : Nat} (h : a < 2147483648) : ((31 : Int32) ≤ n32 a) = (31 ≤ a) := n32_leE (by decide) h
theorem q31e {a : Nat} (h : a < 2147483648) : (n32 a = (31 : Int32)) = (a = 31) := n32_eqE h (by decide)
theorem q32a {a : Nat} : (32 : Int32) + n32 a = n32 (32 + a) := n32_add
theorem q32b {a : Nat} : n32 a + (32 : Int32) = n32 (a + 32) := n32_add
theorem q32m {a : Nat} : (32 : Int32) * n32 a = n32 (32 * a) := n32_mul
theorem q32l {a : Nat} (h : a < 2147483648) : (n32 a < (32 : Int32)) = (a < 32) := n32_ltE h (by decide)
theorem q32g {a : Nat} (h : a < 2147483648) : ((32 : Int32) < n32 a) = (32 < a) := n32_ltE (by decide) h
theorem q32r {a : Nat} (h : a < 2147483648) : (n32 a ≤ (32 : Int32)) = (a ≤ 32) := n32_leE h (by decide)
theorem q32s {a : Nat} (h : a < 2147483648) : ((32 : Int32) ≤ n32 a) = (32 ≤ a) := n32_leE (by decide) h
theorem q32e {a : Nat} (h : a < 2147483648) : (n32 a = (32 : Int32)) = (a = 32) := n32_eqE h (by decide)
theorem q33a {a : Nat} : (33 : Int32) + n32 a = n32 (33 + a) := n32_add
theorem q33b {a : Nat} : n32 a + (33 : Int32) = n32 (a + 33) := n32_add
theorem q33m {a : Nat} : (33 : Int32) * n32 a = n32 (33 * a) := n32_mul
theorem q33l {a : Nat} (h : a < 2147483648) : (n32 a < (33 : Int32)) = (a < 33) := n32_ltE h (by decide)
theorem q33g {a : Nat} (h : a < 2147483648) : ((33 : Int32) < n32 a) = (33 < a) := n32_ltE (by decide) h
theorem q33r {a : Nat} (h : a < 2147483648) : (n32 a ≤ (33 : Int32)) = (a ≤ 33) := n32_leE h (by decide)
theorem q33s {a : Nat} (h : a < 2147483648) : ((33 : Int32) ≤ n32 a) = (33 ≤ a) := n32_leE (by decide) h
theorem q33e {a : Nat} (h : a < 2147483648) : (n32 a = (33 : Int32)) = (a = 33) := n32_eqE h (by decide)
theorem q34a {a : Nat} : (34 : Int32) + n32 a = n32 (34 + a) := n32_add
theorem q34b {a : Nat} : n32 a + (34 : Int32) = n32 (a + 34) := n32_add
theorem q34m {a : Nat} : (34 : Int32) * n32 a = n32 (34 * a) := n32_mul
theorem q34l {a : Nat} (h : a < 2147483648) : (n32 a < (34 : Int32)) = (a < 34) := n32_ltE h (by decide)
theorem q34g {a : Nat} (h : a < 2147483648) : ((34 : Int32) < n32 a) = (34 < a) := n32_ltE (by decide) h
theorem q34r {a : Nat} (h : a < 2147483648) : (n32 a ≤ (34 : Int32)) = (a ≤ 34) := n32_leE h (by decide)
theorem q34s {a : Nat} (h : a < 2147483648) : ((34 : Int32) ≤ n32 a) = (34 ≤ a) := n32_leE (by decide) h
theorem q34e {a : Nat} (h : a < 2147483648) : (n32 a = (34 : Int32)) = (a = 34) := n32_eqE h (by decide)
theorem q35a {a : Nat} : (35 : Int32) + n32 a = n32 (35 + a) := n32_add
theorem q35b {a : Nat} : n32 a + (35 : Int32) = n32 (a + 35) := n32_add
theorem q35m {a : Nat} : (35 : Int32) * n32 a = n32 (35 * a) := n32_mul
theorem q35l {a : Nat} (h : a < 2147483648) : (n32 a < (35 : Int32)) = (a < 35) := n32_ltE h (by decide)
theorem q35g {a : Nat} (h : a < 2147483648) : ((35 : Int32) < n32 a) = (35 < a) := n32_ltE (by decide) h
theorem q35r {a : Nat} (h : a < 2147483648) : (n32 a ≤ (35 : Int32)) = (a ≤ 35) := n32_leE h (by decide)
theorem q35s {a : Nat} (h : a < 2147483648) : ((35 : Int32) ≤ n32 a) = (35 ≤ a) := n32_leE (by decide) h
theorem q35e {a : Nat} (h : a < 2147483648) : (n32 a = (35 : Int32)) = (a = 35) := n32_eqE h (by decide)
theorem q36a {a : Nat} : (36 : Int32) + n32 a = n32 (36 + a) := n32_add
theorem q36b {a : Nat} : n32 a + (36 : Int32) = n32 (a + 36) := n32_add
theorem q36m {a : Nat} : (36 : Int32) * n32 a = n32 (36 * a) := n32_mul
theorem q36l {a : Nat} (h : a < 2147483648) : (n32 a < (36 : Int32)) = (a < 36) := n32_ltE h (by decide)
theorem q36g {a : Nat} (h : a < 2147483648) : ((36 : Int32) < n32 a) = (36 < a) := n32_ltE (by decide) h
theorem q36r {a : Nat} (h : a < 2147483648) : (n32 a ≤ (36 : Int32)) = (a ≤ 36) := n32_leE h (by decide)
theorem q36s {a : Nat} (h : a < 2147483648) : ((36 : Int32) ≤ n32 a) = (36 ≤ a) := n32_leE (by decide) h
theorem q36e {a : Nat} (h : a < 2147483648) : (n32 a = (36 : Int32)) = (a = 36) := n32_eqE h (by decide)
theorem q37a {a : Nat} : (37 : Int32) + n32 a = n32 (37 + a) := n32_add
theorem q37b {a : Nat} : n32 a + (37 : Int32) = n32 (a + 37) := n32_add
theorem q37m {a : Nat} : (37 : Int32) * n32 a = n32 (37 * a) := n32_mul
theorem q37l {a : Nat} (h : a < 2147483648) : (n32 a < (37 : Int32)) = (a < 37) := n32_ltE h (by decide)
theorem q37g {a : Nat} (h : a < 2147483648) : ((37 : Int32) < n32 a) = (37 < a) := n32_ltE (by decide) h
theorem q37r {a : Nat} (h : a < 2147483648) : (n32 a ≤ (37 : Int32)) = (a ≤ 37) := n32_leE h (by decide)
theorem q37s {a : Nat} (h : a < 2147483648) : ((37 : Int32) ≤ n32 a) = (37 ≤ a) := n32_leE (by decide) h
theorem q37e {a : Nat} (h : a < 2147483648) : (n32 a = (37 : Int32)) = (a = 37) := n32_eqE h (by decide)
theorem q40a {a : Nat} : (40 : Int32) + n32 a = n32 (40 + a) := n32_add
theorem q40b {a : Nat} : n32 a + (40 : Int32) = n32 (a + 40) := n32_add
theorem q40m {a : Nat} : (40 : Int32) * n32 a = n32 (40 * a) := n32_mul
theorem q40l {a : Nat} (h : a < 2147483648) : (n32 a < (40 : Int32)) = (a < 40) := n32_ltE h (by decide)
theorem q40g {a : Nat} (h : a < 2147483648) : ((40 : Int32) < n32 a) = (40 < a) := n32_ltE (by decide) h
theorem q40r {a : Nat} (h : a < 2147483648) : (n32 a ≤ (40 : Int32)) = (a ≤ 40) := n32_leE h (by decide)
theorem q40s {a : Nat} (h : a < 2147483648) : ((40 : Int32) ≤ n32 a) = (40 ≤ a) := n32_leE (by decide) h
theorem q40e {a : Nat} (h : a < 2147483648) : (n32 a = (40 : Int32)) = (a = 40) := n32_eqE h (by decide)
theorem q41a {a : Nat} : (41 : Int32) + n32 a = n32 (41 + a) := n32_add
theorem q41b {a : Nat} : n32 a + (41 : Int32) = n32 (a + 41) := n32_add
theorem q41m {a : Nat} : (41 : Int32) * n32 a = n32 (41 * a) := n32_mul
theorem q41l {a : Nat} (h : a < 2147483648) : (n32 a < (41 : Int32)) = (a < 41) := n32_ltE h (by decide)
theorem q41g {a : Nat} (h : a < 2147483648) : ((41 : Int32) < n32 a) = (41 < a) := n32_ltE (by decide) h
theorem q41r {a : Nat} (h : a < 2147483648) : (n32 a ≤ (41 : Int32)) = (a ≤ 41) := n32_leE h (by decide)
theorem q41s {a : Nat} (h : a < 2147483648) : ((41 : Int32) ≤ n32 a) = (41 ≤ a) := n32_leE (by decide) h
theorem q41e {a : Nat} (h : a < 2147483648) : (n32 a = (41 : Int32)) = (a = 41) := n32_eqE h (by decide)
theorem q48a {a : Nat} : (48 : Int32) + n32 a = n32 (48 + a) := n32_add
theorem q48b {a : Nat} : n32 a + (48 : Int32) = n32 (a + 48) := n32_add
theorem q48m {a : Nat} : (48 : Int32) * n32 a = n32 (48 * a) := n32_mul
theorem q48l {a : Nat} (h : a < 2147483648) : (n32 a < (48 : Int32)) = (a < 48) := n32_ltE h (by decide)
theorem q48g {a : Nat} (h : a < 2147483648) : ((48 : Int32) < n32 a) = (48 < a) := n32_ltE (by decide) h
theorem q48r {a : Nat} (h : a < 2147483648) : (n32 a ≤ (48 : Int32)) = (a ≤ 48) := n32_leE h (by decide)
theorem q48s {a : Nat} (h : a < 2147483648) : ((48 : Int32) ≤ n32 a) = (48 ≤ a) := n32_leE (by decide) h
theorem q48e {a : Nat} (h : a < 2147483648) : (n32 a = (48 : Int32)) = (a = 48) := n32_eqE h (by decide)
theorem q52a {a : Nat} : (52 : Int32) + n32 a = n32 (52 + a) := n32_add
theorem q52b {a : Nat} : n32 a + (52 : Int32) = n32 (a + 52) := n32_add
theorem q52m {a : Nat} : (52 : Int32) * n32 a = n32 (52 * a) := n32_mul
theorem q52l {a : Nat} (h : a < 2147483648) : (n32 a < (52 : Int32)) = (a < 52) := n32_ltE h (by decide)
theorem q52g {a : Nat} (h : a < 2147483648) : ((52 : Int32) < n32 a) = (52 < a) := n32_ltE (by decide) h
theorem q52r {a : Nat} (h : a < 2147483648) : (n32 a ≤ (52 : Int32)) = (a ≤ 52) := n32_leE h (by decide)
theorem q52s {a : Nat} (h : a < 2147483648) : ((52 : Int32) ≤ n32 a) = (52 ≤ a) := n32_leE (by decide) h
theorem q52e {a : Nat} (h : a < 2147483648) : (n32 a = (52 : Int32)) = (a = 52) := n32_eqE h (by decide)
theorem q57a {a : Nat} : (57 : Int32) + n32 a = n32 (57 + a) := n32_add
theorem q57b {a : Nat} : n32 a + (57 : Int32) = n32 (a + 57) := n32_add
theorem q57m {a : Nat} : (57 : Int32) * n32 a = n32 (57 * a) := n32_mul
theorem q57l {a : Nat} (h : a < 2147483648) : (n32 a < (57 : Int32)) = (a < 57) := n32_ltE h (by decide)
theorem q57g {a : Nat} (h : a < 2147483648) : ((57 : Int32) < n32 a) = (57 < a) := n32_ltE (by decide) h
theorem q57r {a : Nat} (h : a < 2147483648) : (n32 a ≤ (57 : Int32)) = (a ≤ 57) := n32_leE h (by decide)
theorem q57s {a : Nat} (h : a < 2147483648) : ((57 : Int32) ≤ n32 a) = (57 ≤ a) := n32_leE (by decide) h
theorem q57e {a : Nat} (h : a < 2147483648) : (n32 a = (57 : Int32)) = (a = 57) := n32_eqE h (by decide)
theorem q59a {a : Nat} : (59 : Int32) + n32 a = n32 (59 + a) := n32_add
theorem q59b {a : Nat} : n32 a + (59 : Int32) = n32 (a + 59) := n32_add
theorem q59m {a : Nat} : (59 : Int32) * n32 a = n32 (59 * a) := n32_mul
theorem q59l {a : Nat} (h : a < 2147483648) : (n32 a < (59 : Int32)) = (a < 59) := n32_ltE h (by decide)
theorem q59g {a : Nat} (h : a < 2147483648) : ((59 : Int32) < n32 a) = (59 < a) := n32_ltE (by decide) h
theorem q59r {a : Nat} (h : a < 2147483648) : (n32 a ≤ (59 : Int32)) = (a ≤ 59) := n32_leE h (by decide)
theorem q59s {a : Nat} (h : a < 2147483648) : ((59 : Int32) ≤ n32 a) = (59 ≤ a) := n32_leE (by decide) h
theorem q59e {a : Nat} (h : a < 2147483648) : (n32 a = (59 : Int32)) = (a = 59) := n32_eqE h (by decide)
theorem q60a {a : Nat} : (60 : Int32) + n32 a = n32 (60 + a) := n32_add
theorem q60b {a : Nat} : n32 a + (60 : Int32) = n32 (a + 60) := n32_add
theorem q60m {a : Nat} : (60 : Int32) * n32 a = n32 (60 * a) := n32_mul
theorem q60l {a : Nat} (h : a < 2147483648) : (n32 a < (60 : Int32)) = (a < 60) := n32_ltE h (by decide)
theorem q60g {a : Nat} (h : a < 2147483648) : ((60 : Int32) < n32 a) = (60 < a) := n32_ltE (by decide) h
theorem q60r {a : Nat} (h : a < 2147483648) : (n32 a ≤ (60 : Int32)) = (a ≤ 60) := n32_leE h (by decide)
theorem q60s {a : Nat} (h : a < 2147483648) : ((60 : Int32) ≤ n32 a) = (60 ≤ a) := n32_leE (by decide) h
theorem q60e {a : Nat} (h : a < 2147483648) : (n32 a = (60 : Int32)) = (a = 60) := n32_eqE h (by decide)
theorem q61a {a : Nat} : (61 : Int32) + n32 a = n32 (61 + a) := n32_add
theorem q61b {a : Nat} : n32 a + (61 : Int32) = n32 (a + 61) := n32_add
theorem q61m {a : Nat} : (61 : Int32) * n32 a = n32 (61 * a) := n32_mul
theorem q61l {a : Nat} (h : a < 2147483648) : (n32 a < (61 : Int32)) = (a < 61) := n32_ltE h (by decide)
theorem q61g {a : Nat} (h : a < 2147483648) : ((61 : Int32) < n32 a) = (61 < a) := n32_ltE (by decide) h
theorem q61r {a : Nat} (h : a < 2147483648) : (n32 a ≤ (61 : Int32)) = (a ≤ 61) := n32_leE h (by decide)
theorem q61s {a : Nat} (h : a < 2147483648) : ((61 : Int32) ≤ n32 a) = (61 ≤ a) := n32_leE (by decide) h
theorem q61e {a : Nat} (h : a < 2147483648) : (n32 a = (61 : Int32)) = (a = 61) := n32_eqE h (by decide)
theorem q62a {a : Nat} : (62 : Int32) + n32 a = n32 (62 + a) := n32_add
theorem q62b {a : Nat} : n32 a + (62 : Int32) = n32 (a + 62) := n32_add
theorem q62m {a : Nat} : (62 : Int32) * n32 a = n32 (62 * a) := n32_mul
theorem q62l {a : Nat} (h : a < 2147483648) : (n32 a < (62 : Int32)) = (a < 62) := n32_ltE h (by decide)
theorem q62g {a : Nat} (h : a < 2147483648) : ((62 : Int32) < n32 a) = (62 < a) := n32_ltE (by decide) h
theorem q62r {a : Nat} (h : a < 2147483648) : (n32 a ≤ (62 : Int32)) = (a ≤ 62) := n32_leE h (by decide)
theorem q62s {a : Nat} (h : a < 2147483648) : ((62 : Int32) ≤ n32 a) = (62 ≤ a) := n32_leE (by decide) h
theorem q62e {a : Nat} (h : a < 2147483648) : (n32 a = (62 : Int32)) = (a = 62) := n32_eqE h (by decide)
theorem q64a {a : Nat} : (64 : Int32) + n32 a = n32 (64 + a) := n32_add
theorem q64b {a : Nat} : n32 a + (64 : Int32) = n32 (a + 64) := n32_add
theorem q64m {a : Nat} : (64 : Int32) * n32 a = n32 (64 * a) := n32_mul
theorem q64l {a : Nat} (h : a < 2147483648) : (n32 a < (64 : Int32)) = (a < 64) := n32_ltE h (by decide)
theorem q64g {a : Nat} (h : a < 2147483648) : ((64 : Int32) < n32 a) = (64 < a) := n32_ltE (by decide) h
theorem q64r {a : Nat} (h : a < 2147483648) : (n32 a ≤ (64 : Int32)) = (a ≤ 64) := n32_leE h (by decide)
theorem q64s {a : Nat} (h : a < 2147483648) : ((64 : Int32) ≤ n32 a) = (64 ≤ a) := n32_leE (by decide) h
theorem q64e {a : Nat} (h : a < 2147483648) : (n32 a = (64 : Int32)) = (a = 64) := n32_eqE h (by decide)
theorem q65a {a : Nat} : (65 : Int32) + n32 a = n32 (65 + a) := n32_add
theorem q65b {a : Nat} : n32 a + (65 : Int32) = n32 (a + 65) := n32_add
theorem q65m {a : Nat} : (65 : Int32) * n32 a = n32 (65 * a) := n32_mul
theorem q65l {a : Nat} (h : a < 2147483648) : (n32 a < (65 : Int32)) = (a < 65) := n32_ltE h (by decide)
theorem q65g {a : Nat} (h : a < 2147483648) : ((65 : Int32) < n32 a) = (65 < a) := n32_ltE (by decide) h
theorem q65r {a : Nat} (h : a < 2147483648) : (n32 a ≤ (65 : Int32)) = (a ≤ 65) := n32_leE h (by decide)
theorem q65s {a : Nat} (h : a < 2147483648) : ((65 : Int32) ≤ n32 a) = (65 ≤ a) := n32_leE (by decide) h
theorem q65e {a : Nat} (h : a < 2147483648) : (n32 a = (65 : Int32)) = (a = 65) := n32_eqE h (by decide)
theorem q66a {a : Nat} : (66 : Int32) + n32 a = n32 (66 + a) := n32_add
theorem q66b {a : Nat} : n32 a + (66 : Int32) = n32 (a + 66) := n32_add
theorem q66m {a : Nat} : (66 : Int32) * n32 a = n32 (66 * a) := n32_mul
theorem q66l {a : Nat} (h : a < 2147483648) : (n32 a < (66 : Int32)) = (a < 66) := n32_ltE h (by decide)
theorem q66g {a : Nat} (h : a < 2147483648) : ((66 : Int32) < n32 a) = (66 < a) := n32_ltE (by decide) h
theorem q66r {a : Nat} (h : a < 2147483648) : (n32 a ≤ (66 : Int32)) = (a ≤ 66) := n32_leE h (by decide)
theorem q66s {a : Nat} (h : a < 2147483648) : ((66 : Int32) ≤ n32 a) = (66 ≤ a) := n32_leE (by decide) h
theorem q66e {a : Nat} (h : a < 2147483648) : (n32 a = (66 : Int32)) = (a = 66) := n32_eqE h (by decide)
theorem q68a {a : Nat} : (68 : Int32) + n32 a = n32 (68 + a) := n32_add
theorem q68b {a : Nat} : n32 a + (68 : Int32) = n32 (a + 68) := n32_add
theorem q68m {a : Nat} : (68 : Int32) * n32 a = n32 (68 * a) := n32_mul
theorem q68l {a : Nat} (h : a < 2147483648) : (n32 a < (68 : Int32)) = (a < 68) := n32_ltE h (by decide)
theorem q68g {a : Nat} (h : a < 2147483648) : ((68 : Int32) < n32 a) = (68 < a) := n32_ltE (by decide) h
theorem q68r {a : Nat} (h : a < 2147483648) : (n32 a ≤ (68 : Int32)) = (a ≤ 68) := n32_leE h (by decide)
theorem q68s {a : Nat} (h : a < 2147483648) : ((68 : Int32) ≤ n32 a) = (68 ≤ a) := n32_leE (by decide) h
theorem q68e {a : Nat} (h : a < 2147483648) : (n32 a = (68 : Int32)) = (a = 68) := n32_eqE h (by decide)
theorem q69a {a : Nat} : (69 : Int32) + n32 a = n32 (69 + a) := n32_add
theorem q69b {a : Nat} : n32 a + (69 : Int32) = n32 (a + 69) := n32_add
theorem q69m {a : Nat} : (69 : Int32) * n32 a = n32 (69 * a) := n32_mul
theorem q69l {a : Nat} (h : a < 2147483648) : (n32 a < (69 : Int32)) = (a < 69) := n32_ltE h (by decide)
theorem q69g {a : Nat} (h : a < 2147483648) : ((69 : Int32) < n32 a) = (69 < a) := n32_ltE (by decide) h
theorem q69r {a : Nat} (h : a < 2147483648) : (n32 a ≤ (69 : Int32)) = (a ≤ 69) := n32_leE h (by decide)
theorem q69s {a : Nat} (h : a < 2147483648) : ((69 : Int32) ≤ n32 a) = (69 ≤ a) := n32_leE (by decide) h
theorem q69e {a : Nat} (h : a < 2147483648) : (n32 a = (69 : Int32)) = (a = 69) := n32_eqE h (by decide)
theorem q70a {a : Nat} : (70 : Int32) + n32 a = n32 (70 + a) := n32_add
theorem q70b {a : Nat} : n32 a + (70 : Int32) = n32 (a + 70) := n32_add
theorem q70m {a : Nat} : (70 : Int32) * n32 a = n32 (70 * a) := n32_mul
theorem q70l {a : Nat} (h : a < 2147483648) : (n32 a < (70 : Int32)) = (a < 70) := n32_ltE h (by decide)
theorem q70g {a : Nat} (h : a < 2147483648) : ((70 : Int32) < n32 a) = (70 < a) := n32_ltE (by decide) h
theorem q70r {a : Nat} (h : a < 2147483648) : (n32 a ≤ (70 : Int32)) = (a ≤ 70) := n32_leE h (by decide)
theorem q70s {a : Nat} (h : a < 2147483648) : ((70 : Int32) ≤ n32 a) = (70 ≤ a) := n32_leE (by decide) h
theorem q70e {a : Nat} (h : a < 2147483648) : (n32 a = (70 : Int32)) = (a = 70) := n32_eqE h (by decide)
theorem q71a {a : Nat} : (71 : Int32) + n32 a = n32 (71 + a) := n32_add
theorem q71b {a : Nat} : n32 a + (71 : Int32) = n32 (a + 71) := n32_add
theorem q71m {a : Nat} : (71 : Int32) * n32 a = n32 (71 * a) := n32_mul
theorem q71l {a : Nat} (h : a < 2147483648) : (n32 a < (71 : Int32)) = (a < 71) := n32_ltE h (by decide)
theorem q71g {a : Nat} (h : a < 2147483648) : ((71 : Int32) < n32 a) = (71 < a) := n32_ltE (by decide) h
theorem q71r {a : Nat} (h : a < 2147483648) : (n32 a ≤ (71 : Int32)) = (a ≤ 71) := n32_leE h (by decide)
theorem q71s {a : Nat} (h : a < 2147483648) : ((71 : Int32) ≤ n32 a) = (71 ≤ a) := n32_leE (by decide) h
theorem q71e {a : Nat} (h : a < 2147483648) : (n32 a = (71 : Int32)) = (a = 71) := n32_eqE h (by decide)
theorem q72a {a : Nat} : (72 : Int32) + n32 a = n32 (72 + a) := n32_add
theorem q72b {a : Nat} : n32 a + (72 : Int32) = n32 (a + 72) := n32_add
theorem q72m {a : Nat} : (72 : Int32) * n32 a = n32 (72 * a) := n32_mul
theorem q72l {a : Nat} (h : a < 2147483648) : (n32 a < (72 : Int32)) = (a < 72) := n32_ltE h (by decide)
theorem q72g {a : Nat} (h : a < 2147483648) : ((72 : Int32) < n32 a) = (72 < a) := n32_ltE (by decide) h
theorem q72r {a : Nat} (h : a < 2147483648) : (n32 a ≤ (72 : Int32)) = (a ≤ 72) := n32_leE h (by decide)
theorem q72s {a : Nat} (h : a < 2147483648) : ((72 : Int32) ≤ n32 a) = (72 ≤ a) := n32_leE (by decide) h
theorem q72e {a : Nat} (h : a < 2147483648) : (n32 a = (72 : Int32)) = (a = 72) := n32_eqE h (by decide)
theorem q73a {a : Nat} : (73 : Int32) + n32 a = n32 (73 + a) := n32_add
theorem q73b {a : Nat} : n32 a + (73 : Int32) = n32 (a + 73) := n32_add
theorem q73m {a : Nat} : (73 : Int32) * n32 a = n32 (73 * a) := n32_mul
theorem q73l {a : Nat} (h : a < 2147483648) : (n32 a < (73 : Int32)) = (a < 73) := n32_ltE h (by decide)
theorem q73g {a : Nat} (h : a < 2147483648) : ((73 : Int32) < n32 a) = (73 < a) := n32_ltE (by decide) h
theorem q73r {a : Nat} (h : a < 2147483648) : (n32 a ≤ (73 : Int32)) = (a ≤ 73) := n32_leE h (by decide)
theorem q73s {a : Nat} (h : a < 2147483648) : ((73 : Int32) ≤ n32 a) = (73 ≤ a) := n32_leE (by decide) h
theorem q73e {a : Nat} (h : a < 2147483648) : (n32 a = (73 : Int32)) = (a = 73) := n32_eqE h (by decide)
theorem q74a {a : Nat} : (74 : Int32) + n32 a = n32 (74 + a) := n32_add
theorem q74b {a : Nat} : n32 a + (74 : Int32) = n32 (a + 74) := n32_add
theorem q74m {a : Nat} : (74 : Int32) * n32 a = n32 (74 * a) := n32_mul
theorem q74l {a : Nat} (h : a < 2147483648) : (n32 a < (74 : Int32)) = (a < 74) := n32_ltE h (by decide)
theorem q74g {a : Nat} (h : a < 2147483648) : ((74 : Int32) < n32 a) = (74 < a) := n32_ltE (by decide) h
theorem q74r {a : Nat} (h : a < 2147483648) : (n32 a ≤ (74 : Int32)) = (a ≤ 74) := n32_leE h (by decide)
theorem q74s {a : Nat} (h : a < 2147483648) : ((74 : Int32) ≤ n32 a) = (74 ≤ a) := n32_leE (by decide) h
theorem q74e {a : Nat} (h : a < 2147483648) : (n32 a = (74 : Int32)) = (a = 74) := n32_eqE h (by decide)
theorem q75a {a : Nat} : (75 : Int32) + n32 a = n32 (75 + a) := n32_add
theorem q75b {a : Nat} : n32 a + (75 : Int32) = n32 (a + 75) := n32_add
theorem q75m {a : Nat} : (75 : Int32) * n32 a = n32 (75 * a) := n32_mul
theorem q75l {a : Nat} (h : a < 2147483648) : (n32 a < (75 : Int32)) = (a < 75) := n32_ltE h (by decide)
theorem q75g {a : Nat} (h : a < 2147483648) : ((75 : Int32) < n32 a) = (75 < a) := n32_ltE (by decide) h
theorem q75r {a : Nat} (h : a < 2147483648) : (n32 a ≤ (75 : Int32)) = (a ≤ 75) := n32_leE h (by decide)
theorem q75s {a : Nat} (h : a < 2147483648) : ((75 : Int32) ≤ n32 a) = (75 ≤ a) := n32_leE (by decide) h
theorem q75e {a : Nat} (h : a < 2147483648) : (n32 a = (75 : Int32)) = (a = 75) := n32_eqE h (by decide)
theorem q76a {a : Nat} : (76 : Int32) + n32 a = n32 (76 + a) := n32_add
theorem q76b {a : Nat} : n32 a + (76 : Int32) = n32 (a + 76) := n32_add
theorem q76m {a : Nat} : (76 : Int32) * n32 a = n32 (76 * a) := n32_mul
theorem q76l {a : Nat} (h : a < 2147483648) : (n32 a < (76 : Int32)) = (a < 76) := n32_ltE h (by decide)
theorem q76g {a : Nat} (h : a < 2147483648) : ((76 : Int32) < n32 a) = (76 < a) := n32_ltE (by decide) h
theorem q76r {a : Nat} (h : a < 2147483648) : (n32 a ≤ (76 : Int32)) = (a ≤ 76) := n32_leE h (by decide)
theorem q76s {a : Nat} (h : a < 2147483648) : ((76 : Int32) ≤ n32 a) = (76 ≤ a) := n32_leE (by decide) h
theorem q76e {a : Nat} (h : a < 2147483648) : (n32 a = (76 : Int32)) = (a = 76) := n32_eqE h (by decide)
theorem q77a {a : Nat} : (77 : Int32) + n32 a = n32 (77 + a) := n32_add
theorem q77b {a : Nat} : n32 a + (77 : Int32) = n32 (a + 77) := n32_add
theorem q77m {a : Nat} : (77 : Int32) * n32 a = n32 (77 * a) := n32_mul
theorem q77l {a : Nat} (h : a < 2147483648) : (n32 a < (77 : Int32)) = (a < 77) := n32_ltE h (by decide)
theorem q77g {a : Nat} (h : a < 2147483648) : ((77 : Int32) < n32 a) = (77 < a) := n32_ltE (by decide) h
theorem q77r {a : Nat} (h : a < 2147483648) : (n32 a ≤ (77 : Int32)) = (a ≤ 77) := n32_leE h (by decide)
theorem q77s {a : Nat} (h : a < 2147483648) : ((77 : Int32) ≤ n32 a) = (77 ≤ a) := n32_leE (by decide) h
theorem q77e {a : Nat} (h : a < 2147483648) : (n32 a = (77 : Int32)) = (a = 77) := n32_eqE h (by decide)
theorem q78a {a : Nat} : (78 : Int32) + n32 a = n32 (78 + a) := n32_add
theorem q78b {a : Nat} : n32 a + (78 : Int32) = n32 (a + 78) := n32_add
theorem q78m {a : Nat} : (78 : Int32) * n32 a = n32 (78 * a) := n32_mul
theorem q78l {a : Nat} (h : a < 2147483648) : (n32 a < (78 : Int32)) = (a < 78) := n32_ltE h (by decide)
theorem q78g {a : Nat} (h : a < 2147483648) : ((78 : Int32) < n32 a) = (78 < a) := n32_ltE (by decide) h
theorem q78r {a : Nat} (h : a < 2147483648) : (n32 a ≤ (78 : Int32)) = (a ≤ 78) := n32_leE h (by decide)
theorem q78s {a : Nat} (h : a < 2147483648) : ((78 : Int32) ≤ n32 a) = (78 ≤ a) := n32_leE (by decide) h
theorem q78e {a : Nat} (h : a < 2147483648) : (n32 a = (78 : Int32)) = (a = 78) := n32_eqE h (by decide)
theorem q79a {a : Nat} : (79 : Int32) + n32 a = n32 (79 + a) := n32_add
theorem q79b {a : Nat} : n32 a + (79 : Int32) = n32 (a + 79) := n32_add
theorem q79m {a : Nat} : (79 : Int32) * n32 a = n32 (79 * a) := n32_mul
theorem q79l {a : Nat} (h : a < 2147483648) : (n32 a < (79 : Int32)) = (a < 79) := n32_ltE h (by decide)
theorem q79g {a : Nat} (h : a < 2147483648) : ((79 : Int32) < n32 a) = (79 < a) := n32_ltE (by decide) h
theorem q79r {a : Nat} (h : a < 2147483648) : (n32 a ≤ (79 : Int32)) = (a ≤ 79) := n32_leE h (by decide)
theorem q79s {a : Nat} (h : a < 2147483648) : ((79 : Int32) ≤ n32 a) = (79 ≤ a) := n32_leE (by decide) h
theorem q79e {a : Nat} (h : a < 2147483648) : (n32 a = (79 : Int32)) = (a = 79) := n32_eqE h (by decide)
theorem q80a {a : Nat} : (80 : Int32) + n32 a = n32 (80 + a) := n32_add
theorem q80b {a : Nat} : n32 a + (80 : Int32) = n32 (a + 80) := n32_add
theorem q80m {a : Nat} : (80 : Int32) * n32 a = n32 (80 * a) := n32_mul
theorem q80l {a : Nat} (h : a < 2147483648) : (n32 a < (80 : Int32)) = (a < 80) := n32_ltE h (by decide)
theorem q80g {a : Nat} (h : a < 2147483648) : ((80 : Int32) < n32 a) = (80 < a) := n32_ltE (by decide) h
theorem q80r {a : Nat} (h : a < 2147483648) : (n32 a ≤ (80 : Int32)) = (a ≤ 80) := n32_leE h (by decide)
theorem q80s {a : Nat} (h : a < 2147483648) : ((80 : Int32) ≤ n32 a) = (80 ≤ a) := n32_leE (by decide) h
theorem q80e {a : Nat} (h : a < 2147483648) : (n32 a = (80 : Int32)) = (a = 80) := n32_eqE h (by decide)
theorem q81a {a : Nat} : (81 : Int32) + n32 a = n32 (81 + a) := n32_add
theorem q81b {a : Nat} : n32 a + (81 : Int32) = n32 (a + 81) := n32_add
theorem q81m {a : Nat} : (81 : Int32) * n32 a = n32 (81 * a) := n32_mul
theorem q81l {a : Nat} (h : a < 2147483648) : (n32 a < (81 : Int32)) = (a < 81) := n32_ltE h (by decide)
theorem q81g {a : Nat} (h : a < 2147483648) : ((81 : Int32) < n32 a) = (81 < a) := n32_ltE (by decide) h
theorem q81r {a : Nat} (h : a < 2147483648) : (n32 a ≤ (81 : Int32)) = (a ≤ 81) := n32_leE h (by decide)
theorem q81s {a : Nat} (h : a < 2147483648) : ((81 : Int32) ≤ n32 a) = (81 ≤ a) := n32_leE (by decide) h
theorem q81e {a : Nat} (h : a < 2147483648) : (n32 a = (81 : Int32)) = (a = 81) := n32_eqE h (by decide)
theorem q82a {a : Nat} : (82 : Int32) + n32 a = n32 (82 + a) := n32_add
theorem q82b {a : Nat} : n32 a + (82 : Int32) = n32 (a + 82) := n32_add
theorem q82m {a : Nat} : (82 : Int32) * n32 a = n32 (82 * a) := n32_mul
theorem q82l {a : Nat} (h : a < 2147483648) : (n32 a < (82 : Int32)) = (a < 82) := n32_ltE h (by decide)
theorem q82g {a : Nat} (h : a < 2147483648) : ((82 : Int32) < n32 a) = (82 < a) := n32_ltE (by decide) h
theorem q82r {a : Nat} (h : a < 2147483648) : (n32 a ≤ (82 : Int32)) = (a ≤ 82) := n32_leE h (by decide)
theorem q82s {a : Nat} (h : a < 2147483648) : ((82 : Int32) ≤ n32 a) = (82 ≤ a) := n32_leE (by decide) h
theorem q82e {a : Nat} (h : a < 2147483648) : (n32 a = (82 : Int32)) = (a = 82) := n32_eqE h (by decide)
theorem q83a {a : Nat} : (83 : Int32) + n32 a = n32 (83 + a) := n32_add
theorem q83b {a : Nat} : n32 a + (83 : Int32) = n32 (a + 83) := n32_add
theorem q83m {a : Nat} : (83 : Int32) * n32 a = n32 (83 * a) := n32_mul
theorem q83l {a : Nat} (h : a < 2147483648) : (n32 a < (83 : Int32)) = (a < 83) := n32_ltE h (by decide)
theorem q83g {a : Nat} (h : a < 2147483648) : ((83 : Int32) < n32 a) = (83 < a) := n32_ltE (by decide) h
theorem q83r {a : Nat} (h : a < 2147483648) : (n32 a ≤ (83 : Int32)) = (a ≤ 83) := n32_leE h (by decide)
theorem q83s {a : Nat} (h : a < 2147483648) : ((83 : Int32) ≤ n32 a) = (83 ≤ a) := n32_leE (by decide) h
theorem q83e {a : Nat} (h : a < 2147483648) : (n32 a = (83 : Int32)) = (a = 83) := n32_eqE h (by decide)
theorem q84a {a : Nat} : (84 : Int32) + n32 a = n32 (84 + a) := n32_add
theorem q84b {a : Nat} : n32 a + (84 : Int32) = n32 (a + 84) := n32_add
theorem q84m {a : Nat} : (84 : Int32) * n32 a = n32 (84 * a) := n32_mul
theorem q84l {a : Nat} (h : a < 2147483648) : (n32 a < (84 : Int32)) = (a < 84) := n32_ltE h (by decide)
theorem q84g {a : Nat} (h : a < 2147483648) : ((84 : Int32) < n32 a) = (84 < a) := n32_ltE (by decide) h
theorem q84r {a : Nat} (h : a < 2147483648) : (n32 a ≤ (84 : Int32)) = (a ≤ 84) := n32_leE h (by decide)
theorem q84s {a : Nat} (h : a < 2147483648) : ((84 : Int32) ≤ n32 a) = (84 ≤ a) := n32_leE (by decide) h
theorem q84e {a : Nat} (h : a < 2147483648) : (n32 a = (84 : Int32)) = (a = 84) := n32_eqE h (by decide)
theorem q97a {a : Nat} : (97 : Int32) + n32 a = n32 (97 + a) := n32_add
theorem q97b {a : Nat} : n32 a + (97 : Int32) = n32 (a + 97) := n32_add
theorem q97m {a : Nat} : (97 : Int32) * n32 a = n32 (97 * a) := n32_mul
theorem q97l {a : Nat} (h : a < 2147483648) : (n32 a < (97 : Int32)) = (a < 97) := n32_ltE h (by decide)
theorem q97g {a : Nat} (h : a < 2147483648) : ((97 : Int32) < n32 a) = (97 < a) := n32_ltE (by decide) h
theorem q97r {a : Nat} (h : a < 2147483648) : (n32 a ≤ (97 : Int32)) = (a ≤ 97) := n32_leE h (by decide)
theorem q97s {a : Nat} (h : a < 2147483648) : ((97 : Int32) ≤ n32 a) = (97 ≤ a) := n32_leE (by decide) h
theorem q97e {a : Nat} (h : a < 2147483648) : (n32 a = (97 : Int32)) = (a = 97) := n32_eqE h (by decide)
theorem q120a {a : Nat} : (120 : Int32) + n32 a = n32 (120 + a) := n32_add
theorem q120b {a : Nat} : n32 a + (120 : Int32) = n32 (a + 120) := n32_add
theorem q120m {a : Nat} : (120 : Int32) * n32 a = n32 (120 * a) := n32_mul
theorem q120l {a : Nat} (h : a < 2147483648) : (n32 a < (120 : Int32)) = (a < 120) := n32_ltE h (by decide)
theorem q120g {a : Nat} (h : a < 2147483648) : ((120 : Int32) < n32 a) = (120 < a) := n32_ltE (by decide) h
theorem q120r {a : Nat} (h : a < 2147483648) : (n32 a ≤ (120 : Int32)) = (a ≤ 120) := n32_leE h (by decide)
theorem q120s {a : Nat} (h : a < 2147483648) : ((120 : Int32) ≤ n32 a) = (120 ≤ a) := n32_leE (by decide) h
theorem q120e {a : Nat} (h : a < 2147483648) : (n32 a = (120 : Int32)) = (a = 120) := n32_eqE h (by decide)
theorem q122a {a : Nat} : (122 : Int32) + n32 a = n32 (122 + a) := n32_add
theorem q122b {a : Nat} : n32 a + (122 : Int32) = n32 (a + 122) := n32_add
theorem q122m {a : Nat} : (122 : Int32) * n32 a = n32 (122 * a) := n32_mul
theorem q122l {a : Nat} (h : a < 2147483648) : (n32 a < (122 : Int32)) = (a < 122) := n32_ltE h (by decide)
theorem q122g {a : Nat} (h : a < 2147483648) : ((122 : Int32) < n32 a) = (122 < a) := n32_ltE (by decide) h
theorem q122r {a : Nat} (h : a < 2147483648) : (n32 a ≤ (122 : Int32)) = (a ≤ 122) := n32_leE h (by decide)
theorem q122s {a : Nat} (h : a < 2147483648) : ((122 : Int32) ≤ n32 a) = (122 ≤ a) := n32_leE (by decide) h
theorem q122e {a : Nat} (h : a < 2147483648) : (n32 a = (122 : Int32)) = (a = 122) := n32_eqE h (by decide)
theorem q168a {a : Nat} : (168 : Int32) + n32 a = n32 (168 + a) := n32_add
theorem q168b {a : Nat} : n32 a + (168 : Int32) = n32 (a + 168) := n32_add
theorem q168m {a : Nat} : (168 : Int32) * n32 a = n32 (168 * a) := n32_mul
theorem q168l {a : Nat} (h : a < 2147483648) : (n32 a < (168 : Int32)) = (a < 168) := n32_ltE h (by decide)
theorem q168g {a : Nat} (h : a < 2147483648) : ((168 : Int32) < n32 a) = (168 < a) := n32_ltE (by decide) h
theorem q168r {a : Nat} (h : a < 2147483648) : (n32 a ≤ (168 : Int32)) = (a ≤ 168) := n32_leE h (by decide)
theorem q168s {a : Nat} (h : a < 2147483648) : ((168 : Int32) ≤ n32 a) = (168 ≤ a) := n32_leE (by decide) h
theorem q168e {a : Nat} (h : a < 2147483648) : (n32 a = (168 : Int32)) = (a = 168) := n32_eqE h (by decide)
theorem q216a {a : Nat} : (216 : Int32) + n32 a = n32 (216 + a) := n32_add
theorem q216b {a : Nat} : n32 a + (216 : Int32) = n32 (a + 216) := n32_add
theorem q216m {a : Nat} : (216 : Int32) * n32 a = n32 (216 * a) := n32_mul
theorem q216l {a : Nat} (h : a < 2147483648) : (n32 a < (216 : Int32)) = (a < 216) := n32_ltE h (by decide)
theorem q216g {a : Nat} (h : a < 2147483648) : ((216 : Int32) < n32 a) = (216 < a) := n32_ltE (by decide) h
theorem q216r {a : Nat} (h : a < 2147483648) : (n32 a ≤ (216 : Int32)) = (a ≤ 216) := n32_leE h (by decide)
theorem q216s {a : Nat} (h : a < 2147483648) : ((216 : Int32) ≤ n32 a) = (216 ≤ a) := n32_leE (by decide) h
theorem q216e {a : Nat} (h : a < 2147483648) : (n32 a = (216 : Int32)) = (a = 216) := n32_eqE h (by decide)
theorem q222a {a : Nat} : (222 : Int32) + n32 a = n32 (222 + a) := n32_add
theorem q222b {a : Nat} : n32 a + (222 : Int32) = n32 (a + 222) := n32_add
theorem q222m {a : Nat} : (222 : Int32) * n32 a = n32 (222 * a) := n32_mul
theorem q222l {a : Nat} (h : a < 2147483648) : (n32 a < (222 : Int32)) = (a < 222) := n32_ltE h (by decide)
theorem q222g {a : Nat} (h : a < 2147483648) : ((222 : Int32) < n32 a) = (222 < a) := n32_ltE (by decide) h
theorem q222r {a : Nat} (h : a < 2147483648) : (n32 a ≤ (222 : Int32)) = (a ≤ 222) := n32_leE h (by decide)
theorem q222s {a : Nat} (h : a < 2147483648) : ((222 : Int32) ≤ n32 a) = (222 ≤ a) := n32_leE (by decide) h
theorem q222e {a : Nat} (h : a < 2147483648) : (n32 a = (222 : Int32)) = (a = 222) := n32_eqE h (by decide)
theorem q225a {a : Nat} : (225 : Int32) + n32 a = n32 (225 + a) := n32_add
theorem q225b {a : Nat} : n32 a + (225 : Int32) = n32 (a + 225) := n32_add
theorem q225m {a : Nat} : (225 : Int32) * n32 a = n32 (225 * a) := n32_mul
theorem q225l {a : Nat} (h : a < 2147483648) : (n32 a < (225 : Int32)) = (a < 225) := n32_ltE h (by decide)
theorem q225g {a : Nat} (h : a < 2147483648) : ((225 : Int32) < n32 a) = (225 < a) := n32_ltE (by decide) h
theorem q225r {a : Nat} (h : a < 2147483648) : (n32 a ≤ (225 : Int32)) = (a ≤ 225) := n32_leE h (by decide)
theorem q225s {a : Nat} (h : a < 2147483648) : ((225 : Int32) ≤ n32 a) = (225 ≤ a) := n32_leE (by decide) h
theorem q225e {a : Nat} (h : a < 2147483648) : (n32 a = (225 : Int32)) = (a = 225) := n32_eqE h (by decide)
theorem q255a {a : Nat} : (255 : Int32) + n32 a = n32 (255 + a) := n32_add
theorem q255b {a : Nat} : n32 a + (255 : Int32) = n32 (a + 255) := n32_add
theorem q255m {a : Nat} : (255 : Int32) * n32 a = n32 (255 * a) := n32_mul
theorem q255l {a : Nat} (h : a < 2147483648) : (n32 a < (255 : Int32)) = (a < 255) := n32_ltE h (by decide)
theorem q255g {a : Nat} (h : a < 2147483648) : ((255 : Int32) < n32 a) = (255 < a) := n32_ltE (by decide) h
theorem q255r {a : Nat} (h : a < 2147483648) : (n32 a ≤ (255 : Int32)) = (a ≤ 255) := n32_leE h (by decide)
theorem q255s {a : Nat} (h : a < 2147483648) : ((255 : Int32) ≤ n32 a) = (255 ≤ a) := n32_leE (by decide) h
theorem q255e {a : Nat} (h : a < 2147483648) : (n32 a = (255 : Int32)) = (a = 255) := n32_eqE h (by decide)
theorem q256a {a : Nat} : (256 : Int32) + n32 a = n32 (256 + a) := n32_add
theorem q256b {a : Nat} : n32 a + (256 : Int32) = n32 (a + 256) := n32_add
theorem q256m {a : Nat} : (256 : Int32) * n32 a = n32 (256 * a) := n32_mul
theorem q256l {a : Nat} (h : a < 2147483648) : (n32 a < (256 : Int32)) = (a < 256) := n32_ltE h (by decide)
theorem q256g {a : Nat} (h : a < 2147483648) : ((256 : Int32) < n32 a) = (256 < a) := n32_ltE (by decide) h
theorem q256r {a : Nat} (h : a < 2147483648) : (n32 a ≤ (256 : Int32)) = (a ≤ 256) := n32_leE h (by decide)
theorem q256s {a : Nat} (h : a < 2147483648) : ((256 : Int32) ≤ n32 a) = (256 ≤ a) := n32_leE (by decide) h
theorem q256e {a : Nat} (h : a < 2147483648) : (n32 a = (256 : Int32)) = (a = 256) := n32_eqE h (by decide)
theorem q360a {a : Nat} : (360 : Int32) + n32 a = n32 (360 + a) := n32_add
theorem q360b {a : Nat} : n32 a + (360 : Int32) = n32 (a + 360) := n32_add
theorem q360m {a : Nat} : (360 : Int32) * n32 a = n32 (360 * a) := n32_mul
theorem q360l {a : Nat} (h : a < 2147483648) : (n32 a < (360 : Int32)) = (a < 360) := n32_ltE h (by decide)
theorem q360g {a : Nat} (h : a < 2147483648) : ((360 : Int32) < n32 a) = (360 < a) := n32_ltE (by decide) h
theorem q360r {a : Nat} (h : a < 2147483648) : (n32 a ≤ (360 : Int32)) = (a ≤ 360) := n32_leE h (by decide)
theorem q360s {a : Nat} (h : a < 2147483648) : ((360 : Int32) ≤ n32 a) = (360 ≤ a) := n32_leE (by decide) h
theorem q360e {a : Nat} (h : a < 2147483648) : (n32 a = (360 : Int32)) = (a = 360) := n32_eqE h (by decide)
theorem q400a {a : Nat} : (400 : Int32) + n32 a = n32 (400 + a) := n32_add
theorem q400b {a : Nat} : n32 a + (400 : Int32) = n32 (a + 400) := n32_add
theorem q400m {a : Nat} : (400 : Int32) * n32 a = n32 (400 * a) := n32_mul
theorem q400l {a : Nat} (h : a < 2147483648) : (n32 a < (400 : Int32)) = (a < 400) := n32_ltE h (by decide)
theorem q400g {a : Nat} (h : a < 2147483648) : ((400 : Int32) < n32 a) = (400 < a) := n32_ltE (by decide) h
theorem q400r {a : Nat} (h : a < 2147483648) : (n32 a ≤ (400 : Int32)) = (a ≤ 400) := n32_leE h (by decide)
theorem q400s {a : Nat} (h : a < 2147483648) : ((400 : Int32) ≤ n32 a) = (400 ≤ a) := n32_leE (by decide) h
theorem q400e {a : Nat} (h : a < 2147483648) : (n32 a = (400 : Int32)) = (a = 400) := n32_eqE h (by decide)
theorem q900a {a : Nat} : (900 : Int32) + n32 a = n32 (900 + a) := n32_add
theorem q900b {a : Nat} : n32 a + (900 : Int32) = n32 (a + 900) := n32_add
theorem q900m {a : Nat} : (900 : Int32) * n32 a = n32 (900 * a) := n32_mul
theorem q900l {a : Nat} (h : a < 2147483648) : (n32 a < (900 : Int32)) = (a < 900) := n32_ltE h (by decide)
theorem q900g {a : Nat} (h : a < 2147483648) : ((900 : Int32) < n32 a) = (900 < a) := n32_ltE (by decide) h
theorem q900r {a : Nat} (h : a < 2147483648) : (n32 a ≤ (900 : Int32)) = (a ≤ 900) := n32_leE h (by decide)
theorem q900s {a : Nat} (h : a < 2147483648) : ((900 : Int32) ≤ n32 a) = (900 ≤ a) := n32_leE (by decide) h
theorem q900e {a : Nat} (h : a < 2147483648) : (n32 a = (900 : Int32)) = (a = 900) := n32_eqE h (by decide)
theorem q940a {a : Nat} : (940 : Int32) + n32 a = n32 (940 + a) := n32_add
theorem q940b {a : Nat} : n32 a + (940 : Int32) = n32 (a + 940) := n32_add
theorem q940m {a : Nat} : (940 : Int32) * n32 a = n32 (940 * a) := n32_mul
theorem q940l {a : Nat} (h : a < 2147483648) : (n32 a < (940 : Int32)) = (a < 940) := n32_ltE h (by decide)
theorem q940g {a : Nat} (h : a < 2147483648) : ((940 : Int32) < n32 a) = (940 < a) := n32_ltE (by decide) h
theorem q940r {a : Nat} (h : a < 2147483648) : (n32 a ≤ (940 : Int32)) = (a ≤ 940) := n32_leE h (by decide)
theorem q940s {a : Nat} (h : a < 2147483648) : ((940 : Int32) ≤ n32 a) = (940 ≤ a) := n32_leE (by decide) h
theorem q940e {a : Nat} (h : a < 2147483648) : (n32 a = (940 : Int32)) = (a = 940) := n32_eqE h (by decide)
theorem q1554a {a : Nat} : (1554 : Int32) + n32 a = n32 (1554 + a) := n32_add
theorem q1554b {a : Nat} : n32 a + (1554 : Int32) = n32 (a + 1554) := n32_add
theorem q1554m {a : Nat} : (1554 : Int32) * n32 a = n32 (1554 * a) := n32_mul
theorem q1554l {a : Nat} (h : a < 2147483648) : (n32 a < (1554 : Int32)) = (a < 1554) := n32_ltE h (by decide)
theorem q1554g {a : Nat} (h : a < 2147483648) : ((1554 : Int32) < n32 a) = (1554 < a) := n32_ltE (by decide) h
theorem q1554r {a : Nat} (h : a < 2147483648) : (n32 a ≤ (1554 : Int32)) = (a ≤ 1554) := n32_leE h (by decide)
theorem q1554s {a : Nat} (h : a < 2147483648) : ((1554 : Int32) ≤ n32 a) = (1554 ≤ a) := n32_leE (by decide) h
theorem q1554e {a : Nat} (h : a < 2147483648) : (n32 a = (1554 : Int32)) = (a = 1554) := n32_eqE h (by decide)

theorem c_m_readLine (d : Nat) (M : Mm) (g : Nat → Int32) (T : Nat → Nat) (L mo p : Nat) (hg : M.1 114 = g) (hK : TkM M T L mo p) (δ : Nat → Nat) (hh : ∀ k, k < 90 → M.1 117 k = nI (δ k)) (hδ : DB δ) (ν : Nat → Int64) (hN : ∀ q, q < δ 2 → M.2.1 119 (6 + q) = ν q) (o : Nat) (ho : g 20 = nI o) (ho5 : o < 32) (ic : Int64) (hic : M.2.1 114 21 = ic) (hv : Rsv M) : Wn (d + 5) 68 (PRm M g T L mo (rdLn T L mo p δ ν o ic)) (0, lv_args 0 [.ref 114], [], M) := by
  by_cases h10 : tKd T L mo p = 10
  · have e : rdLn T L mo p δ ν o ic = rdLk T L mo p δ ν o ic := by unfold rdLn; rw [if_pos h10]
    rw [e]; exact c_m_readLine_10 (d + 1) M g T L mo p hg hK δ hh hδ ν hN o ho ho5 ic hic hv h10
  by_cases h11 : tKd T L mo p = 11
  · have e : rdLn T L mo p δ ν o ic = rdIc T L mo p δ ν o ic := by unfold rdLn; rw [if_neg h10, if_pos h11]
    rw [e]; exact c_m_readLine_11 (d + 0) M g T L mo p hg hK δ hh hδ ν hN o ho ho5 ic hic hv h11
  by_cases h12 : tKd T L mo p = 12
  · have e : rdLn T L mo p δ ν o ic = rdPe T L mo p δ ν o ic := by unfold rdLn; rw [if_neg h10, if_neg h11, if_pos h12]
    rw [e]; exact c_m_readLine_12 (d + 0) M g T L mo p hg hK δ hh hδ ν hN o ho ho5 ic hic hv h12
  by_cases h13 : tKd T L mo p = 13
  · have e : rdLn T L mo p δ ν o ic = rdRu T L mo p δ ν o ic := by unfold rdLn; rw [if_neg h10, if_neg h11, if_neg h12, if_pos h13]
    rw [e]; exact c_m_readLine_13 (d + 1) M g T L mo p hg hK δ hh hδ ν hN o ho ho5 ic hic hv h13
  by_cases h14 : tKd T L mo p = 14
  · have e : rdLn T L mo p δ ν o ic = rdOn T L mo p δ ν o ic 1 5 2 9 := by unfold rdLn; rw [if_neg h10, if_neg h11, if_neg h12, if_neg h13, if_pos h14]
    rw [e]; exact c_m_readLine_14 (d + 1) M g T L mo p hg hK δ hh hδ ν hN o ho ho5 ic hic hv h14
  by_cases h15 : tKd T L mo p = 15
  · have e : rdLn T L mo p δ ν o ic = rdOn T L mo p δ ν o ic 2 6 1 9 := by unfold rdLn; rw [if_neg h10, if_neg h11, if_neg h12, if_neg h13, if_neg h14, if_pos h15]
    rw [e]; exact c_m_readLine_15 (d + 1) M g T L mo p hg hK δ hh hδ ν hN o ho ho5 ic hic hv h15
  by_cases h16 : tKd T L mo p = 16
  · have e : rdLn T L mo p δ ν o ic = rdOn T L mo p δ ν o ic 3 7 1 30 := by unfold rdLn; rw [if_neg h10, if_neg h11, if_neg h12, if_neg h13, if_neg h14, if_neg h15, if_pos h16]
    rw [e]; exact c_m_readLine_16 (d + 1) M g T L mo p hg hK δ hh hδ ν hN o ho ho5 ic hic hv h16
  have e : rdLn T L mo p δ ν o ic = .inl (1, tAt T L mo p) := by unfold rdLn; rw [if_neg h10, if_neg h11, if_neg h12, if_neg h13, if_neg h14, if_neg h15, if_neg h16]
  rw [e]; exact c_m_readLine_0 (d + 4) M g T L mo p hg hK δ hh hδ ν hN o ho ho5 ic hic hv (by omega)

/-! the law's body: its words, what is known at each turn -/
def mL_law : MD := (cL_law, RL, yL_law, 8, ret, 15, 578)
def L0 (b q0 i : Nat) : List (Nat × Value) := [(5, .int (nI i)), (4, .ref (b + 85)), (3, .ref (b + 84)), (2, .ref (b + 30)), (1, .ref b), (0, .ref q0)]
theorem ciL_Reorderium : CIs RL 127 mX10_init := CIs.of 111 112 (by decide +kernel) (by decide +kernel) rfl rfl
theorem ciL_ReorderiumModel : CIs RL 130 mX11_init := CIs.of 1536 1537 (by decide +kernel) (by decide +kernel) rfl rfl
theorem csL_add : CSs RL 131 mL_add := CSs.of 568 569 (by decide +kernel) (by decide +kernel)
theorem cvM_add : CVs RL 136 mX11_add 12 := CVs.of 1735 1736 1737 (by decide +kernel) (by decide +kernel) (by decide +kernel) _ rfl rfl
theorem cvM_thrown : CVs RL 137 mX11_thrown 12 := CVs.of 1731 1732 1733 (by decide +kernel) (by decide +kernel) (by decide +kernel) _ rfl rfl
theorem csL_setRegister : CSs RL 140 mL_setRegister := CSs.of 767 768 (by decide +kernel) (by decide +kernel)
theorem cvM_setRegister : CVs RL 143 mX11_setRegister 12 := CVs.of 1742 1743 1744 (by decide +kernel) (by decide +kernel) (by decide +kernel) _ rfl rfl
theorem csL_setWord : CSs RL 144 mL_setWord := CSs.of 774 775 (by decide +kernel) (by decide +kernel)
theorem cvM_setWord : CVs RL 146 mX11_setWord 12 := CVs.of 1750 1751 1752 (by decide +kernel) (by decide +kernel) (by decide +kernel) _ rfl rfl
theorem csL_setWidth : CSs RL 147 mL_setWidth := CSs.of 784 785 (by decide +kernel) (by decide +kernel)
theorem cvM_setWidth : CVs RL 150 mX11_setWidth 12 := CVs.of 1754 1755 1756 (by decide +kernel) (by decide +kernel) (by decide +kernel) _ rfl rfl
theorem csL_setBuffer : CSs RL 151 mL_setBuffer := CSs.of 791 792 (by decide +kernel) (by decide +kernel)
theorem cvM_setBuffer : CVs RL 153 mX11_setBuffer 12 := CVs.of 1758 1759 1760 (by decide +kernel) (by decide +kernel) (by decide +kernel) _ rfl rfl
theorem csL_setQueue : CSs RL 154 mL_setQueue := CSs.of 798 799 (by decide +kernel) (by decide +kernel)
theorem cvM_setQueue : CVs RL 156 mX11_setQueue 12 := CVs.of 1762 1763 1764 (by decide +kernel) (by decide +kernel) (by decide +kernel) _ rfl rfl
theorem csL_setInner : CSs RL 157 mL_setInner := CSs.of 805 806 (by decide +kernel) (by decide +kernel)
theorem cvM_setInner : CVs RL 159 mX11_setInner 12 := CVs.of 1766 1767 1768 (by decide +kernel) (by decide +kernel) (by decide +kernel) _ rfl rfl
theorem csL_setHandlers : CSs RL 160 mL_setHandlers := CSs.of 813 814 (by decide +kernel) (by decide +kernel)
theorem cvM_setHandlers : CVs RL 162 mX11_setHandlers 12 := CVs.of 1770 1771 1772 (by decide +kernel) (by decide +kernel) (by decide +kernel) _ rfl rfl
theorem csL_setTime : CSs RL 163 mL_setTime := CSs.of 823 824 (by decide +kernel) (by decide +kernel)
theorem cvM_setTime : CVs RL 165 mX11_setTime 12 := CVs.of 1774 1775 1776 (by decide +kernel) (by decide +kernel) (by decide +kernel) _ rfl rfl
theorem cvA_interrupt : CVs RL 166 mX10_interrupt 11 := CVs.of 446 447 448 (by decide +kernel) (by decide +kernel) (by decide +kernel) _ rfl rfl
theorem cvM_interrupt : CVs RL 170 mX11_interrupt 12 := CVs.of 1778 1779 1780 (by decide +kernel) (by decide +kernel) (by decide +kernel) _ rfl rfl
theorem csL_run : CSs RL 171 mL_run := CSs.of 830 831 (by decide +kernel) (by decide +kernel)
theorem cvM_run : CVs RL 173 mX11_run 12 := CVs.of 1782 1783 1784 (by decide +kernel) (by decide +kernel) (by decide +kernel) _ rfl rfl
theorem cvA_cycle : CVs RL 174 mX10_cycle 11 := CVs.of 450 451 452 (by decide +kernel) (by decide +kernel) (by decide +kernel) _ rfl rfl
theorem cvM_cycle : CVs RL 177 mX11_cycle 12 := CVs.of 1928 1929 1930 (by decide +kernel) (by decide +kernel) (by decide +kernel) _ rfl rfl
theorem cvA_hasStopped : CVs RL 178 mX10_hasStopped 11 := CVs.of 454 455 456 (by decide +kernel) (by decide +kernel) (by decide +kernel) _ rfl rfl
theorem cvM_hasStopped : CVs RL 181 mX11_hasStopped 12 := CVs.of 1932 1933 1934 (by decide +kernel) (by decide +kernel) (by decide +kernel) _ rfl rfl
theorem cvA_ends : CVs RL 182 mX10_ends 11 := CVs.of 458 459 460 (by decide +kernel) (by decide +kernel) (by decide +kernel) _ rfl rfl
theorem cvM_ends : CVs RL 185 mX11_ends_ 12 := CVs.of 1936 1937 1938 (by decide +kernel) (by decide +kernel) (by decide +kernel) _ rfl rfl
theorem csL_kindAt : CSs RL 186 mL_kindAt := CSs.of 1315 1316 (by decide +kernel) (by decide +kernel)
theorem cvM_kindAt : CVs RL 188 mX11_kindAt 12 := CVs.of 1940 1941 1942 (by decide +kernel) (by decide +kernel) (by decide +kernel) _ rfl rfl
theorem csL_placeAt : CSs RL 189 mL_placeAt := CSs.of 1344 1345 (by decide +kernel) (by decide +kernel)
theorem cvM_placeAt : CVs RL 191 mX11_placeAt 12 := CVs.of 1948 1949 1950 (by decide +kernel) (by decide +kernel) (by decide +kernel) _ rfl rfl
theorem csL_kindByPlain : CSs RL 192 mL_kindByPlain := CSs.of 1351 1352 (by decide +kernel) (by decide +kernel)
theorem cvM_kindByPlain : CVs RL 194 mX11_kindByPlain 12 := CVs.of 1952 1953 1954 (by decide +kernel) (by decide +kernel) (by decide +kernel) _ rfl rfl
theorem csL_placeByPlain : CSs RL 195 mL_placeByPlain := CSs.of 1358 1359 (by decide +kernel) (by decide +kernel)
theorem cvM_placeByPlain : CVs RL 197 mX11_placeByPlain 12 := CVs.of 1972 1973 1974 (by decide +kernel) (by decide +kernel) (by decide +kernel) _ rfl rfl
theorem csL_register : CSs RL 198 mL_register := CSs.of 1365 1366 (by decide +kernel) (by decide +kernel)
theorem cvM_register : CVs RL 200 mX11_register 12 := CVs.of 1976 1977 1978 (by decide +kernel) (by decide +kernel) (by decide +kernel) _ rfl rfl
theorem csL_registerByPlain : CSs RL 201 mL_registerByPlain := CSs.of 1373 1374 (by decide +kernel) (by decide +kernel)
theorem cvM_registerByPlain : CVs RL 203 mX11_registerByPlain 12 := CVs.of 1980 1981 1982 (by decide +kernel) (by decide +kernel) (by decide +kernel) _ rfl rfl
theorem csL_word : CSs RL 204 mL_word := CSs.of 1380 1381 (by decide +kernel) (by decide +kernel)
theorem cvM_word : CVs RL 206 mX11_word 12 := CVs.of 1984 1985 1986 (by decide +kernel) (by decide +kernel) (by decide +kernel) _ rfl rfl
theorem csL_wordByPlain : CSs RL 207 mL_wordByPlain := CSs.of 1387 1388 (by decide +kernel) (by decide +kernel)
theorem cvM_wordByPlain : CVs RL 209 mX11_wordByPlain 12 := CVs.of 1988 1989 1990 (by decide +kernel) (by decide +kernel) (by decide +kernel) _ rfl rfl
theorem csL_kept : CSs RL 210 mL_kept := CSs.of 1394 1395 (by decide +kernel) (by decide +kernel)
theorem cvM_kept : CVs RL 213 mX11_kept 12 := CVs.of 1992 1993 1994 (by decide +kernel) (by decide +kernel) (by decide +kernel) _ rfl rfl
theorem csL_life : CSs RL 214 mL_life := CSs.of 1417 1418 (by decide +kernel) (by decide +kernel)
theorem cvM_life : CVs RL 216 mX11_life 12 := CVs.of 1996 1997 1998 (by decide +kernel) (by decide +kernel) (by decide +kernel) _ rfl rfl
theorem csL_inner : CSs RL 217 mL_inner := CSs.of 1424 1425 (by decide +kernel) (by decide +kernel)
theorem cvM_inner : CVs RL 219 mX11_inner 12 := CVs.of 2004 2005 2006 (by decide +kernel) (by decide +kernel) (by decide +kernel) _ rfl rfl
theorem csL_innerAnew : CSs RL 220 mL_innerAnew := CSs.of 1431 1432 (by decide +kernel) (by decide +kernel)
theorem cvM_innerAnew : CVs RL 222 mX11_innerAnew 12 := CVs.of 2008 2009 2010 (by decide +kernel) (by decide +kernel) (by decide +kernel) _ rfl rfl
theorem csL_stateOf : CSs RL 223 mL_stateOf := CSs.of 1442 1443 (by decide +kernel) (by decide +kernel)
theorem cvM_stateOf : CVs RL 225 mX11_stateOf 12 := CVs.of 2013 2014 2015 (by decide +kernel) (by decide +kernel) (by decide +kernel) _ rfl rfl
theorem csL_isReady : CSs RL 226 mL_isReady := CSs.of 1454 1455 (by decide +kernel) (by decide +kernel)
theorem cvM_isReady : CVs RL 228 mX11_isReady 12 := CVs.of 2021 2022 2023 (by decide +kernel) (by decide +kernel) (by decide +kernel) _ rfl rfl
theorem cvA_free : CVs RL 229 mX10_free 11 := CVs.of 466 467 468 (by decide +kernel) (by decide +kernel) (by decide +kernel) _ rfl rfl
theorem cvM_free : CVs RL 232 mX11_free 12 := CVs.of 2025 2026 2027 (by decide +kernel) (by decide +kernel) (by decide +kernel) _ rfl rfl
theorem csL_freeAt : CSs RL 233 mL_freeAt := CSs.of 1462 1463 (by decide +kernel) (by decide +kernel)
theorem cvM_freeAt : CVs RL 235 mX11_freeAt 12 := CVs.of 2029 2030 2031 (by decide +kernel) (by decide +kernel) (by decide +kernel) _ rfl rfl
theorem cvA_inBuffer : CVs RL 236 mX10_inBuffer 11 := CVs.of 470 471 472 (by decide +kernel) (by decide +kernel) (by decide +kernel) _ rfl rfl
theorem cvM_inBuffer : CVs RL 239 mX11_inBuffer 12 := CVs.of 2033 2034 2035 (by decide +kernel) (by decide +kernel) (by decide +kernel) _ rfl rfl
theorem csL_bufferAt : CSs RL 240 mL_bufferAt := CSs.of 1469 1470 (by decide +kernel) (by decide +kernel)
theorem cvM_bufferAt : CVs RL 242 mX11_bufferAt 12 := CVs.of 2037 2038 2039 (by decide +kernel) (by decide +kernel) (by decide +kernel) _ rfl rfl
theorem csL_stageAt : CSs RL 243 mL_stageAt := CSs.of 1477 1478 (by decide +kernel) (by decide +kernel)
theorem cvM_stageAt : CVs RL 245 mX11_stageAt 12 := CVs.of 2041 2042 2043 (by decide +kernel) (by decide +kernel) (by decide +kernel) _ rfl rfl
theorem cvA_inQueue : CVs RL 246 mX10_inQueue 11 := CVs.of 474 475 476 (by decide +kernel) (by decide +kernel) (by decide +kernel) _ rfl rfl
theorem cvM_inQueue : CVs RL 249 mX11_inQueue 12 := CVs.of 2045 2046 2047 (by decide +kernel) (by decide +kernel) (by decide +kernel) _ rfl rfl
theorem cvA_fetched : CVs RL 250 mX10_fetched 11 := CVs.of 498 499 500 (by decide +kernel) (by decide +kernel) (by decide +kernel) _ rfl rfl
theorem cvM_fetched : CVs RL 253 mX11_fetched 12 := CVs.of 2049 2050 2051 (by decide +kernel) (by decide +kernel) (by decide +kernel) _ rfl rfl
theorem csL_fetching : CSs RL 254 mL_fetching := CSs.of 1484 1485 (by decide +kernel) (by decide +kernel)
theorem cvM_fetching : CVs RL 256 mX11_fetching 12 := CVs.of 2053 2054 2055 (by decide +kernel) (by decide +kernel) (by decide +kernel) _ rfl rfl
theorem cvA_returns : CVs RL 257 mX10_returns 11 := CVs.of 502 503 504 (by decide +kernel) (by decide +kernel) (by decide +kernel) _ rfl rfl
theorem cvM_returns : CVs RL 260 mX11_returns 12 := CVs.of 2057 2058 2059 (by decide +kernel) (by decide +kernel) (by decide +kernel) _ rfl rfl
theorem csL_returnAt : CSs RL 261 mL_returnAt := CSs.of 1491 1492 (by decide +kernel) (by decide +kernel)
theorem cvM_returnAt : CVs RL 263 mX11_returnAt 12 := CVs.of 2061 2062 2063 (by decide +kernel) (by decide +kernel) (by decide +kernel) _ rfl rfl
theorem csL_counter : CSs RL 264 mL_counter := CSs.of 1498 1499 (by decide +kernel) (by decide +kernel)
theorem cvM_counter : CVs RL 266 mX11_counter 12 := CVs.of 2065 2066 2067 (by decide +kernel) (by decide +kernel) (by decide +kernel) _ rfl rfl
theorem csL_isMarked : CSs RL 267 mL_isMarked := CSs.of 1505 1506 (by decide +kernel) (by decide +kernel)
theorem cvM_isMarked : CVs RL 269 mX11_isMarked 12 := CVs.of 2069 2070 2071 (by decide +kernel) (by decide +kernel) (by decide +kernel) _ rfl rfl
theorem csL_lineAt : CSs RL 270 mL_lineAt := CSs.of 1512 1513 (by decide +kernel) (by decide +kernel)
theorem cvM_lineAt : CVs RL 272 mX11_lineAt 12 := CVs.of 2073 2074 2075 (by decide +kernel) (by decide +kernel) (by decide +kernel) _ rfl rfl
theorem cvA_asked : CVs RL 273 mX10_asked 11 := CVs.of 506 507 508 (by decide +kernel) (by decide +kernel) (by decide +kernel) _ rfl rfl
theorem cvM_asked : CVs RL 276 mX11_asked 12 := CVs.of 2077 2078 2079 (by decide +kernel) (by decide +kernel) (by decide +kernel) _ rfl rfl
theorem csL_lost : CSs RL 277 mL_lost := CSs.of 1519 1520 (by decide +kernel) (by decide +kernel)
theorem cvM_lost : CVs RL 280 mX11_lost 12 := CVs.of 2081 2082 2083 (by decide +kernel) (by decide +kernel) (by decide +kernel) _ rfl rfl
theorem cvA_wrong : CVs RL 281 mX10_wrong 11 := CVs.of 510 511 512 (by decide +kernel) (by decide +kernel) (by decide +kernel) _ rfl rfl
theorem cvM_wrong : CVs RL 284 mX11_wrong 12 := CVs.of 2085 2086 2087 (by decide +kernel) (by decide +kernel) (by decide +kernel) _ rfl rfl
theorem cvA_early : CVs RL 285 mX10_early 11 := CVs.of 514 515 516 (by decide +kernel) (by decide +kernel) (by decide +kernel) _ rfl rfl
theorem cvM_early : CVs RL 288 mX11_early 12 := CVs.of 2089 2090 2091 (by decide +kernel) (by decide +kernel) (by decide +kernel) _ rfl rfl
theorem cvA_thrownAway : CVs RL 289 mX10_thrownAway 11 := CVs.of 518 519 520 (by decide +kernel) (by decide +kernel) (by decide +kernel) _ rfl rfl
theorem cvM_thrownAway : CVs RL 292 mX11_thrownAway 12 := CVs.of 2093 2094 2095 (by decide +kernel) (by decide +kernel) (by decide +kernel) _ rfl rfl
theorem cvA_taken : CVs RL 293 mX10_taken 11 := CVs.of 522 523 524 (by decide +kernel) (by decide +kernel) (by decide +kernel) _ rfl rfl
theorem cvM_taken : CVs RL 296 mX11_taken 12 := CVs.of 2097 2098 2099 (by decide +kernel) (by decide +kernel) (by decide +kernel) _ rfl rfl
theorem cvA_hits : CVs RL 297 mX10_hits 11 := CVs.of 526 527 528 (by decide +kernel) (by decide +kernel) (by decide +kernel) _ rfl rfl
theorem cvM_hits : CVs RL 301 mX11_hits 12 := CVs.of 2101 2102 2103 (by decide +kernel) (by decide +kernel) (by decide +kernel) _ rfl rfl
theorem csL_share : CSs RL 302 mL_share := CSs.of 1527 1528 (by decide +kernel) (by decide +kernel)
theorem cvM_share : CVs RL 305 mX11_share 12 := CVs.of 2106 2107 2108 (by decide +kernel) (by decide +kernel) (by decide +kernel) _ rfl rfl
theorem cvA_isSame : CVs RL 306 mX10_isSame 11 := CVs.of 531 532 533 (by decide +kernel) (by decide +kernel) (by decide +kernel) _ rfl rfl
theorem cvM_isSame : CVs RL 309 mX11_isSame 12 := CVs.of 2110 2111 2112 (by decide +kernel) (by decide +kernel) (by decide +kernel) _ rfl rfl
theorem cvA_isWhole : CVs RL 310 mX10_isWhole 11 := CVs.of 548 549 550 (by decide +kernel) (by decide +kernel) (by decide +kernel) _ rfl rfl
theorem cvM_isWhole : CVs RL 313 mX11_isWhole 12 := CVs.of 2114 2115 2116 (by decide +kernel) (by decide +kernel) (by decide +kernel) _ rfl rfl
theorem nwL_Reorderium : NWs RL 8 11 1 := NWs.of _ rfl rfl 109 110 78 (by decide +kernel) (by decide +kernel) (by decide +kernel)
theorem nwL_ReorderiumModel : NWs RL 128 12 61 := NWs.of _ rfl rfl 1534 1535 90 (by decide +kernel) (by decide +kernel) (by decide +kernel)
theorem acL_long : Cond.arrayClass (newarray.typeOf .long) ∈ lw_tbl := List.mem_of_getElem? (i := 2118) (by decide +kernel)
theorem acL_double : Cond.arrayClass (newarray.typeOf .double) ∈ lw_tbl := List.mem_of_getElem? (i := 2119) (by decide +kernel)
section LAWA
variable {b z : Nat} {A A' : Sx} {μ μ1 μ2 : Mm}
theorem P2.kb (h : P2 b z A A' μ) : mK μ b = 111 := h.1.1.1
theorem P2.km (h : P2 b z A A' μ) : mK μ (b + 30) = 112 := by
  obtain ⟨ρ, r⟩ := h.2.2.1
  exact r.1.1
theorem P2.n86 (h : P2 b z A A' μ) (w : WF μ) : b + 86 ≤ mN μ := by
  have h1 := h.2.2.2.1.2.2.1
  rcases Nat.lt_or_ge (b + 85) (mN μ) with q | q
  · omega
  · rw [w _ q] at h1
    cases h1
theorem wp_out {α : Type} {g : α → Int64} {ces : List String} {k : Nat} {v : α} {v9 : Int32} (nd : ces.Nodup) (kl : k ≤ ces.length) (p1 : P2 b z A A' μ1) (h : WP1 g ces (b + 84) μ μ1 (rOf ces k v) v9 μ2) : v9 = nI k ∧ P2 b z A A' μ2 ∧ (k = 0 → mJ μ2 (b + 84) 0 = g v) := by
  rcases h with ⟨w, h1, h2, h3⟩ | ⟨E, j, N, h1, h2, h3, h4, h5⟩
  · obtain ⟨k0, rfl⟩ := rOf_v h1
    subst h3
    exact ⟨by rw [h2, k0]; rfl, p1.sJ, fun _ => sJ_at⟩
  · have kj := rOf_k kl nd h1 h2
    subst h5
    exact ⟨by rw [h3, kj], p1.sN, fun q => by omega⟩
theorem wp_outD {α : Type} {g : α → Int64} {ces : List String} {k : Nat} {v : α} {v9 : Int32} (nd : ces.Nodup) (kl : k ≤ ces.length) (p1 : P2 b z A A' μ1) (h : WP1 g ces (b + 85) μ μ1 (rOf ces k v) v9 μ2) : v9 = nI k ∧ P2 b z A A' μ2 ∧ (k = 0 → mJ μ2 (b + 85) 0 = g v) := by
  rcases h with ⟨w, h1, h2, h3⟩ | ⟨E, j, N, h1, h2, h3, h4, h5⟩
  · obtain ⟨k0, rfl⟩ := rOf_v h1
    subst h3
    exact ⟨by rw [h2, k0]; rfl, p1.sJ, fun _ => sJ_at⟩
  · have kj := rOf_k kl nd h1 h2
    subst h5
    exact ⟨by rw [h3, kj], p1.sN, fun q => by omega⟩
theorem nI_n0 {k : Nat} (h : k ≤ 3) (h0 : ¬ k = 0) : ¬ nI k = 0 := by
  have : k = 1 ∨ k = 2 ∨ k = 3 := by omega
  rcases this with rfl | rfl | rfl <;> decide
theorem sI_vin {i n j : Nat} {x : Int32} (hj : j < 6) (hx : x = nI j) (h1 : i + 6 ≤ n) (h2 : n ≤ 3072) : vp_in (nI i + x) n := by
  rw [hx, nI_add]
  intro q
  rcases q with q | q
  · exact Int32.not_lt.mpr (show (0 : Int32) ≤ nI (i + j) from nI_pos' (by omega)) q
  · rw [clN (by omega)] at q
    omega
theorem op_share (h : JV b z A μ) (w : WF μ) : ∃ (k : Nat) (v : UInt32) (μ1 : Mm), k ≤ 1 ∧ f_X10_share b μ = some (rOf [exNSE] k v, μ1) ∧ P2 b z A A μ1 ∧ mN μ1 ≤ mN μ + 1 ∧ mS μ1 ≤ mS μ + 6 ∧ (k = 0 → FP.Core.val32 v ≠ FP.Core.Datum.nan) ∧
    ∀ μ2, P2 b z A A μ2 → ∃ w9, f_X11_share (b + 30) μ2 = some (w9, sI μ2 (b + 30) 54 (nI k)) ∧ (k = 0 → w9 = v) := by
  obtain ⟨⟨fr, ⟨G, ar, s, hr⟩, hm, oc9, hz⟩, ai⟩ := id h
  have n14 : aS A 14 ≤ 2004 := by have := ai.n14; omega
  by_cases q : aS A 0 = 0
  · refine ⟨1, shV A, bump μ 6, by decide, (c_share fr ai.2.2.2 n14).2 q, h.1.cl w ai.n9 ai.n10 fr.bump hr.bump bump_ck, Nat.le_refl _, Nat.le_refl _, fun t => absurd t (by decide), fun μ2 p2 => ?_⟩
    obtain ⟨ρ, r⟩ := p2.2.2.1
    have e9 := m_share (b := b) r ai.2.2.2 n14
    simp only [if_pos q] at e9
    exact ⟨_, e9, fun t => absurd t (by decide)⟩
  · refine ⟨0, shV A, μ, by decide, (c_share fr ai.2.2.2 n14).1 q, h.1, by omega, by omega, fun t => sh_val (by omega) ai.2.2.2 n14, fun μ2 p2 => ?_⟩
    obtain ⟨ρ, r⟩ := p2.2.2.1
    have e9 := m_share (b := b) r ai.2.2.2 n14
    simp only [if_neg q] at e9
    exact ⟨_, e9, fun t => rfl⟩
end LAWA
section LAWW
variable {l : Launch} {G : Gt} {Y : MD} {p : Program} {e : Env} {R : Room} {s : State} {m : MethodId} {args : Array Value} {below : List Frame} {meth : Method} {c : Code} {Q : State → Prop} {pc : Nat} {L : List (Nat × Value)} {st : List Value} {μ μ1 : Mm} {c1 s1 c2 s2 : Nat}
theorem lj_wf (k : WF μ → LJ l G Y p e R s m args below meth c Q pc L st μ c1 s1) : LJ l G Y p e R s m args below meth c Q pc L st μ c1 s1 := fun H locs cells slots ls h1 h2 h3 h4 h5 hl => k (fun a ha => Classical.byContradiction fun q => absurd (h1.lt q) (by omega)) H locs cells slots ls h1 h2 h3 h4 h5 hl
end LAWW

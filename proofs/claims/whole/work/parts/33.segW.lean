set_option maxRecDepth 20000 in
theorem s_L_law_23 {M : AM} {fin : Fin'} {X : Sc} {x4 : Int32} {M1 : AM} {x103 : Int32} {M2 : AM} {x104 : Int32} {M3 : AM} {x105 : Int32} {M4 : AM} {x110 : Int32} {M5 : AM} {x111 : Int32} {M6 : AM} {x112 : Int32} {M7 : AM} {x117 : Int32} {M8 : AM} {x118 : Int32} {M9 : AM} {x119 : Int32} {M10 : AM} {x124 : Int32} {M11 : AM} {x125 : Int32} {M12 : AM} {x126 : Int32} {M13 : AM} {x131 : Int32} {M14 : AM} {x132 : Int32} {M15 : AM} {x133 : Int32} {M16 : AM} {x138 : Int32} {M17 : AM} {x139 : Int32} {M18 : AM} {x142 : Int32} {M19 : AM} {x143 : Int32} {M20 : AM} {x144 : Int32} {M21 : AM} {x149 : Int32} {M22 : AM} {x150 : Int32} {M23 : AM} {x151 : Int32} {M24 : AM} {x156 : Int32} {M25 : AM} {x157 : Int32} {M26 : AM} {x158 : Int32} {M27 : AM} {x163 : Int32} {M28 : AM} {x164 : Int64} {M29 : AM} {x165 : Int32} {M30 : AM} {x170 : Int32} {M31 : AM} {x171 : Int32} {M32 : AM} {x172 : Int32} {M33 : AM} {x177 : Int32} {M34 : AM} {x178 : Int32} {M35 : AM} {x179 : Int32} {M36 : AM} {x184 : Int32} {M37 : AM} {x185 : Int64} {M38 : AM} {x186 : Int32} {M39 : AM} {x191 : Int32} {M40 : AM} {x192 : Int32} {M41 : AM} {x193 : Int32} (hS : St M)
    (k1 : ∀ (g1 : ((Int32.ofNat X.1) - 6) < x4), (.inl (some (aI 1), M) : Fin') = fin)
    (b2 : ∀ (g1 : ¬ (((Int32.ofNat X.1) - 6) < x4)), vp_in x4 X.1)
    (b3 : ∀ (g1 : ¬ (((Int32.ofNat X.1) - 6) < x4)) (g2 : ((X.2 x4.toNatClampNeg) &&& 15) = 0), vp_in (x4 + 1) X.1)
    (b4 : ∀ (g1 : ¬ (((Int32.ofNat X.1) - 6) < x4)) (g2 : ((X.2 x4.toNatClampNeg) &&& 15) = 0), vp_in (x4 + 2) X.1)
    (b5 : ∀ (g1 : ¬ (((Int32.ofNat X.1) - 6) < x4)) (g2 : ((X.2 x4.toNatClampNeg) &&& 15) = 0), vp_in (x4 + 3) X.1)
    (c6 : ∀ (g1 : ¬ (((Int32.ofNat X.1) - 6) < x4)) (g2 : ((X.2 x4.toNatClampNeg) &&& 15) = 0), Tv K_L_method [aR (some 3), aI (X.2 (x4 + 1).toNatClampNeg), aI (X.2 (x4 + 2).toNatClampNeg), aI (X.2 (x4 + 3).toNatClampNeg), aR (some 57)] M (.inl (some (aI x103), M1)))
    (h7 : ∀ (g1 : ¬ (((Int32.ofNat X.1) - 6) < x4)) (g2 : ((X.2 x4.toNatClampNeg) &&& 15) = 0), St M1)
    (c8 : ∀ (g1 : ¬ (((Int32.ofNat X.1) - 6) < x4)) (g2 : ((X.2 x4.toNatClampNeg) &&& 15) = 0), Ev K_X7_method [aR (some 26), aI (X.2 (x4 + 1).toNatClampNeg), aI (X.2 (x4 + 2).toNatClampNeg), aI (X.2 (x4 + 3).toNatClampNeg)] M1 (some (aI x104)) M2)
    (c9 : ∀ (g1 : ¬ (((Int32.ofNat X.1) - 6) < x4)) (g2 : ((X.2 x4.toNatClampNeg) &&& 15) = 0), Ev K_X7_thrown [aR (some 26)] M2 (some (aI x105)) M3)
    (k10 : ∀ (g1 : ¬ (((Int32.ofNat X.1) - 6) < x4)) (g2 : ((X.2 x4.toNatClampNeg) &&& 15) = 0) (g6 : x105 = x103) (g7 : ¬ x103 = 0), TX X K_L_law 23 [some (aR (some 0)), some (aR (some 3)), some (aR (some 26)), some (aR (some 57)), some (aI (x4 + 6)), some (aI x103), some (aI x104), none] [] M3 fin)
    (b11 : ∀ (g1 : ¬ (((Int32.ofNat X.1) - 6) < x4)) (g2 : ((X.2 x4.toNatClampNeg) &&& 15) = 0) (g6 : x105 = x103) (g7 : x103 = 0), vp_in 0 1)
    (k12 : ∀ (g1 : ¬ (((Int32.ofNat X.1) - 6) < x4)) (g2 : ((X.2 x4.toNatClampNeg) &&& 15) = 0) (g6 : x105 = x103) (g7 : x103 = 0) (g8 : (mJ M3 57 (0 : Int32).toNatClampNeg) = ((x104 : Int32).toInt64)), TX X K_L_law 23 [some (aR (some 0)), some (aR (some 3)), some (aR (some 26)), some (aR (some 57)), some (aI (x4 + 6)), some (aI x103), some (aI x104), none] [] M3 fin)
    (k13 : ∀ (g1 : ¬ (((Int32.ofNat X.1) - 6) < x4)) (g2 : ((X.2 x4.toNatClampNeg) &&& 15) = 0) (g6 : x105 = x103) (g7 : x103 = 0) (g8 : ¬ ((mJ M3 57 (0 : Int32).toNatClampNeg) = ((x104 : Int32).toInt64))), (.inl (some (aI 0), M3) : Fin') = fin)
    (k14 : ∀ (g1 : ¬ (((Int32.ofNat X.1) - 6) < x4)) (g2 : ((X.2 x4.toNatClampNeg) &&& 15) = 0) (g6 : ¬ x105 = x103), (.inl (some (aI 0), M3) : Fin') = fin)
    (b15 : ∀ (g1 : ¬ (((Int32.ofNat X.1) - 6) < x4)) (g2 : ¬ (((X.2 x4.toNatClampNeg) &&& 15) = 0)) (g9 : ((X.2 x4.toNatClampNeg) &&& 15) = 1), vp_in (x4 + 1) X.1)
    (b16 : ∀ (g1 : ¬ (((Int32.ofNat X.1) - 6) < x4)) (g2 : ¬ (((X.2 x4.toNatClampNeg) &&& 15) = 0)) (g9 : ((X.2 x4.toNatClampNeg) &&& 15) = 1), vp_in (x4 + 2) X.1)
    (b17 : ∀ (g1 : ¬ (((Int32.ofNat X.1) - 6) < x4)) (g2 : ¬ (((X.2 x4.toNatClampNeg) &&& 15) = 0)) (g9 : ((X.2 x4.toNatClampNeg) &&& 15) = 1), vp_in (x4 + 3) X.1)
    (b18 : ∀ (g1 : ¬ (((Int32.ofNat X.1) - 6) < x4)) (g2 : ¬ (((X.2 x4.toNatClampNeg) &&& 15) = 0)) (g9 : ((X.2 x4.toNatClampNeg) &&& 15) = 1), vp_in (x4 + 4) X.1)
    (c19 : ∀ (g1 : ¬ (((Int32.ofNat X.1) - 6) < x4)) (g2 : ¬ (((X.2 x4.toNatClampNeg) &&& 15) = 0)) (g9 : ((X.2 x4.toNatClampNeg) &&& 15) = 1), Tv K_L_add [aR (some 3), aI (X.2 (x4 + 1).toNatClampNeg), aI (X.2 (x4 + 2).toNatClampNeg), aJ ((((X.2 (x4 + 3).toNatClampNeg : Int32).toInt64) <<< ((32 : Int32).toInt64 &&& 63)) ||| (((X.2 (x4 + 4).toNatClampNeg : Int32).toInt64) &&& 4294967295)), aR (some 57)] M (.inl (some (aI x110), M4)))
    (h20 : ∀ (g1 : ¬ (((Int32.ofNat X.1) - 6) < x4)) (g2 : ¬ (((X.2 x4.toNatClampNeg) &&& 15) = 0)) (g9 : ((X.2 x4.toNatClampNeg) &&& 15) = 1), St M4)
    (c21 : ∀ (g1 : ¬ (((Int32.ofNat X.1) - 6) < x4)) (g2 : ¬ (((X.2 x4.toNatClampNeg) &&& 15) = 0)) (g9 : ((X.2 x4.toNatClampNeg) &&& 15) = 1), Ev K_X7_add [aR (some 26), aI (X.2 (x4 + 1).toNatClampNeg), aI (X.2 (x4 + 2).toNatClampNeg), aJ ((((X.2 (x4 + 3).toNatClampNeg : Int32).toInt64) <<< ((32 : Int32).toInt64 &&& 63)) ||| (((X.2 (x4 + 4).toNatClampNeg : Int32).toInt64) &&& 4294967295))] M4 (some (aI x111)) M5)
    (c22 : ∀ (g1 : ¬ (((Int32.ofNat X.1) - 6) < x4)) (g2 : ¬ (((X.2 x4.toNatClampNeg) &&& 15) = 0)) (g9 : ((X.2 x4.toNatClampNeg) &&& 15) = 1), Ev K_X7_thrown [aR (some 26)] M5 (some (aI x112)) M6)
    (k23 : ∀ (g1 : ¬ (((Int32.ofNat X.1) - 6) < x4)) (g2 : ¬ (((X.2 x4.toNatClampNeg) &&& 15) = 0)) (g9 : ((X.2 x4.toNatClampNeg) &&& 15) = 1) (g13 : x112 = x110) (g14 : ¬ x110 = 0), TX X K_L_law 23 [some (aR (some 0)), some (aR (some 3)), some (aR (some 26)), some (aR (some 57)), some (aI (x4 + 6)), some (aI x110), some (aI x111), none] [] M6 fin)
    (b24 : ∀ (g1 : ¬ (((Int32.ofNat X.1) - 6) < x4)) (g2 : ¬ (((X.2 x4.toNatClampNeg) &&& 15) = 0)) (g9 : ((X.2 x4.toNatClampNeg) &&& 15) = 1) (g13 : x112 = x110) (g14 : x110 = 0), vp_in 0 1)
    (k25 : ∀ (g1 : ¬ (((Int32.ofNat X.1) - 6) < x4)) (g2 : ¬ (((X.2 x4.toNatClampNeg) &&& 15) = 0)) (g9 : ((X.2 x4.toNatClampNeg) &&& 15) = 1) (g13 : x112 = x110) (g14 : x110 = 0) (g15 : (mJ M6 57 (0 : Int32).toNatClampNeg) = ((x111 : Int32).toInt64)), TX X K_L_law 23 [some (aR (some 0)), some (aR (some 3)), some (aR (some 26)), some (aR (some 57)), some (aI (x4 + 6)), some (aI x110), some (aI x111), none] [] M6 fin)
    (k26 : ∀ (g1 : ¬ (((Int32.ofNat X.1) - 6) < x4)) (g2 : ¬ (((X.2 x4.toNatClampNeg) &&& 15) = 0)) (g9 : ((X.2 x4.toNatClampNeg) &&& 15) = 1) (g13 : x112 = x110) (g14 : x110 = 0) (g15 : ¬ ((mJ M6 57 (0 : Int32).toNatClampNeg) = ((x111 : Int32).toInt64))), (.inl (some (aI 0), M6) : Fin') = fin)
    (k27 : ∀ (g1 : ¬ (((Int32.ofNat X.1) - 6) < x4)) (g2 : ¬ (((X.2 x4.toNatClampNeg) &&& 15) = 0)) (g9 : ((X.2 x4.toNatClampNeg) &&& 15) = 1) (g13 : ¬ x112 = x110), (.inl (some (aI 0), M6) : Fin') = fin)
    (b28 : ∀ (g1 : ¬ (((Int32.ofNat X.1) - 6) < x4)) (g2 : ¬ (((X.2 x4.toNatClampNeg) &&& 15) = 0)) (g9 : ¬ (((X.2 x4.toNatClampNeg) &&& 15) = 1)) (g16 : ((X.2 x4.toNatClampNeg) &&& 15) = 2), vp_in (x4 + 1) X.1)
    (b29 : ∀ (g1 : ¬ (((Int32.ofNat X.1) - 6) < x4)) (g2 : ¬ (((X.2 x4.toNatClampNeg) &&& 15) = 0)) (g9 : ¬ (((X.2 x4.toNatClampNeg) &&& 15) = 1)) (g16 : ((X.2 x4.toNatClampNeg) &&& 15) = 2), vp_in (x4 + 2) X.1)
    (b30 : ∀ (g1 : ¬ (((Int32.ofNat X.1) - 6) < x4)) (g2 : ¬ (((X.2 x4.toNatClampNeg) &&& 15) = 0)) (g9 : ¬ (((X.2 x4.toNatClampNeg) &&& 15) = 1)) (g16 : ((X.2 x4.toNatClampNeg) &&& 15) = 2), vp_in (x4 + 3) X.1)
    (b31 : ∀ (g1 : ¬ (((Int32.ofNat X.1) - 6) < x4)) (g2 : ¬ (((X.2 x4.toNatClampNeg) &&& 15) = 0)) (g9 : ¬ (((X.2 x4.toNatClampNeg) &&& 15) = 1)) (g16 : ((X.2 x4.toNatClampNeg) &&& 15) = 2), vp_in (x4 + 4) X.1)
    (b32 : ∀ (g1 : ¬ (((Int32.ofNat X.1) - 6) < x4)) (g2 : ¬ (((X.2 x4.toNatClampNeg) &&& 15) = 0)) (g9 : ¬ (((X.2 x4.toNatClampNeg) &&& 15) = 1)) (g16 : ((X.2 x4.toNatClampNeg) &&& 15) = 2), vp_in (x4 + 5) X.1)
    (c33 : ∀ (g1 : ¬ (((Int32.ofNat X.1) - 6) < x4)) (g2 : ¬ (((X.2 x4.toNatClampNeg) &&& 15) = 0)) (g9 : ¬ (((X.2 x4.toNatClampNeg) &&& 15) = 1)) (g16 : ((X.2 x4.toNatClampNeg) &&& 15) = 2), Tv K_L_change [aR (some 3), aI (X.2 (x4 + 1).toNatClampNeg), aI (X.2 (x4 + 2).toNatClampNeg), aI (X.2 (x4 + 3).toNatClampNeg), aJ ((((X.2 (x4 + 4).toNatClampNeg : Int32).toInt64) <<< ((32 : Int32).toInt64 &&& 63)) ||| (((X.2 (x4 + 5).toNatClampNeg : Int32).toInt64) &&& 4294967295)), aR (some 57)] M (.inl (some (aI x117), M7)))
    (h34 : ∀ (g1 : ¬ (((Int32.ofNat X.1) - 6) < x4)) (g2 : ¬ (((X.2 x4.toNatClampNeg) &&& 15) = 0)) (g9 : ¬ (((X.2 x4.toNatClampNeg) &&& 15) = 1)) (g16 : ((X.2 x4.toNatClampNeg) &&& 15) = 2), St M7)
    (c35 : ∀ (g1 : ¬ (((Int32.ofNat X.1) - 6) < x4)) (g2 : ¬ (((X.2 x4.toNatClampNeg) &&& 15) = 0)) (g9 : ¬ (((X.2 x4.toNatClampNeg) &&& 15) = 1)) (g16 : ((X.2 x4.toNatClampNeg) &&& 15) = 2), Ev K_X7_change [aR (some 26), aI (X.2 (x4 + 1).toNatClampNeg), aI (X.2 (x4 + 2).toNatClampNeg), aI (X.2 (x4 + 3).toNatClampNeg), aJ ((((X.2 (x4 + 4).toNatClampNeg : Int32).toInt64) <<< ((32 : Int32).toInt64 &&& 63)) ||| (((X.2 (x4 + 5).toNatClampNeg : Int32).toInt64) &&& 4294967295))] M7 (some (aI x118)) M8)
    (c36 : ∀ (g1 : ¬ (((Int32.ofNat X.1) - 6) < x4)) (g2 : ¬ (((X.2 x4.toNatClampNeg) &&& 15) = 0)) (g9 : ¬ (((X.2 x4.toNatClampNeg) &&& 15) = 1)) (g16 : ((X.2 x4.toNatClampNeg) &&& 15) = 2), Ev K_X7_thrown [aR (some 26)] M8 (some (aI x119)) M9)
    (k37 : ∀ (g1 : ¬ (((Int32.ofNat X.1) - 6) < x4)) (g2 : ¬ (((X.2 x4.toNatClampNeg) &&& 15) = 0)) (g9 : ¬ (((X.2 x4.toNatClampNeg) &&& 15) = 1)) (g16 : ((X.2 x4.toNatClampNeg) &&& 15) = 2) (g20 : x119 = x117) (g21 : ¬ x117 = 0), TX X K_L_law 23 [some (aR (some 0)), some (aR (some 3)), some (aR (some 26)), some (aR (some 57)), some (aI (x4 + 6)), some (aI x117), some (aI x118), none] [] M9 fin)
    (b38 : ∀ (g1 : ¬ (((Int32.ofNat X.1) - 6) < x4)) (g2 : ¬ (((X.2 x4.toNatClampNeg) &&& 15) = 0)) (g9 : ¬ (((X.2 x4.toNatClampNeg) &&& 15) = 1)) (g16 : ((X.2 x4.toNatClampNeg) &&& 15) = 2) (g20 : x119 = x117) (g21 : x117 = 0), vp_in 0 1)
    (k39 : ∀ (g1 : ¬ (((Int32.ofNat X.1) - 6) < x4)) (g2 : ¬ (((X.2 x4.toNatClampNeg) &&& 15) = 0)) (g9 : ¬ (((X.2 x4.toNatClampNeg) &&& 15) = 1)) (g16 : ((X.2 x4.toNatClampNeg) &&& 15) = 2) (g20 : x119 = x117) (g21 : x117 = 0) (g22 : (mJ M9 57 (0 : Int32).toNatClampNeg) = ((x118 : Int32).toInt64)), TX X K_L_law 23 [some (aR (some 0)), some (aR (some 3)), some (aR (some 26)), some (aR (some 57)), some (aI (x4 + 6)), some (aI x117), some (aI x118), none] [] M9 fin)
    (k40 : ∀ (g1 : ¬ (((Int32.ofNat X.1) - 6) < x4)) (g2 : ¬ (((X.2 x4.toNatClampNeg) &&& 15) = 0)) (g9 : ¬ (((X.2 x4.toNatClampNeg) &&& 15) = 1)) (g16 : ((X.2 x4.toNatClampNeg) &&& 15) = 2) (g20 : x119 = x117) (g21 : x117 = 0) (g22 : ¬ ((mJ M9 57 (0 : Int32).toNatClampNeg) = ((x118 : Int32).toInt64))), (.inl (some (aI 0), M9) : Fin') = fin)
    (k41 : ∀ (g1 : ¬ (((Int32.ofNat X.1) - 6) < x4)) (g2 : ¬ (((X.2 x4.toNatClampNeg) &&& 15) = 0)) (g9 : ¬ (((X.2 x4.toNatClampNeg) &&& 15) = 1)) (g16 : ((X.2 x4.toNatClampNeg) &&& 15) = 2) (g20 : ¬ x119 = x117), (.inl (some (aI 0), M9) : Fin') = fin)
    (b42 : ∀ (g1 : ¬ (((Int32.ofNat X.1) - 6) < x4)) (g2 : ¬ (((X.2 x4.toNatClampNeg) &&& 15) = 0)) (g9 : ¬ (((X.2 x4.toNatClampNeg) &&& 15) = 1)) (g16 : ¬ (((X.2 x4.toNatClampNeg) &&& 15) = 2)) (g23 : ((X.2 x4.toNatClampNeg) &&& 15) = 3), vp_in (x4 + 1) X.1)
    (b43 : ∀ (g1 : ¬ (((Int32.ofNat X.1) - 6) < x4)) (g2 : ¬ (((X.2 x4.toNatClampNeg) &&& 15) = 0)) (g9 : ¬ (((X.2 x4.toNatClampNeg) &&& 15) = 1)) (g16 : ¬ (((X.2 x4.toNatClampNeg) &&& 15) = 2)) (g23 : ((X.2 x4.toNatClampNeg) &&& 15) = 3), vp_in (x4 + 2) X.1)
    (c44 : ∀ (g1 : ¬ (((Int32.ofNat X.1) - 6) < x4)) (g2 : ¬ (((X.2 x4.toNatClampNeg) &&& 15) = 0)) (g9 : ¬ (((X.2 x4.toNatClampNeg) &&& 15) = 1)) (g16 : ¬ (((X.2 x4.toNatClampNeg) &&& 15) = 2)) (g23 : ((X.2 x4.toNatClampNeg) &&& 15) = 3), Tv K_L_cost [aR (some 3), aI (X.2 (x4 + 1).toNatClampNeg), aI (X.2 (x4 + 2).toNatClampNeg), aR (some 57)] M (.inl (some (aI x124), M10)))
    (h45 : ∀ (g1 : ¬ (((Int32.ofNat X.1) - 6) < x4)) (g2 : ¬ (((X.2 x4.toNatClampNeg) &&& 15) = 0)) (g9 : ¬ (((X.2 x4.toNatClampNeg) &&& 15) = 1)) (g16 : ¬ (((X.2 x4.toNatClampNeg) &&& 15) = 2)) (g23 : ((X.2 x4.toNatClampNeg) &&& 15) = 3), St M10)
    (c46 : ∀ (g1 : ¬ (((Int32.ofNat X.1) - 6) < x4)) (g2 : ¬ (((X.2 x4.toNatClampNeg) &&& 15) = 0)) (g9 : ¬ (((X.2 x4.toNatClampNeg) &&& 15) = 1)) (g16 : ¬ (((X.2 x4.toNatClampNeg) &&& 15) = 2)) (g23 : ((X.2 x4.toNatClampNeg) &&& 15) = 3), Ev K_X7_cost [aR (some 26), aI (X.2 (x4 + 1).toNatClampNeg), aI (X.2 (x4 + 2).toNatClampNeg)] M10 (some (aI x125)) M11)
    (c47 : ∀ (g1 : ¬ (((Int32.ofNat X.1) - 6) < x4)) (g2 : ¬ (((X.2 x4.toNatClampNeg) &&& 15) = 0)) (g9 : ¬ (((X.2 x4.toNatClampNeg) &&& 15) = 1)) (g16 : ¬ (((X.2 x4.toNatClampNeg) &&& 15) = 2)) (g23 : ((X.2 x4.toNatClampNeg) &&& 15) = 3), Ev K_X7_thrown [aR (some 26)] M11 (some (aI x126)) M12)
    (k48 : ∀ (g1 : ¬ (((Int32.ofNat X.1) - 6) < x4)) (g2 : ¬ (((X.2 x4.toNatClampNeg) &&& 15) = 0)) (g9 : ¬ (((X.2 x4.toNatClampNeg) &&& 15) = 1)) (g16 : ¬ (((X.2 x4.toNatClampNeg) &&& 15) = 2)) (g23 : ((X.2 x4.toNatClampNeg) &&& 15) = 3) (g27 : x126 = x124) (g28 : ¬ x124 = 0), TX X K_L_law 23 [some (aR (some 0)), some (aR (some 3)), some (aR (some 26)), some (aR (some 57)), some (aI (x4 + 6)), some (aI x124), some (aI x125), none] [] M12 fin)
    (b49 : ∀ (g1 : ¬ (((Int32.ofNat X.1) - 6) < x4)) (g2 : ¬ (((X.2 x4.toNatClampNeg) &&& 15) = 0)) (g9 : ¬ (((X.2 x4.toNatClampNeg) &&& 15) = 1)) (g16 : ¬ (((X.2 x4.toNatClampNeg) &&& 15) = 2)) (g23 : ((X.2 x4.toNatClampNeg) &&& 15) = 3) (g27 : x126 = x124) (g28 : x124 = 0), vp_in 0 1)
    (k50 : ∀ (g1 : ¬ (((Int32.ofNat X.1) - 6) < x4)) (g2 : ¬ (((X.2 x4.toNatClampNeg) &&& 15) = 0)) (g9 : ¬ (((X.2 x4.toNatClampNeg) &&& 15) = 1)) (g16 : ¬ (((X.2 x4.toNatClampNeg) &&& 15) = 2)) (g23 : ((X.2 x4.toNatClampNeg) &&& 15) = 3) (g27 : x126 = x124) (g28 : x124 = 0) (g29 : (mJ M12 57 (0 : Int32).toNatClampNeg) = ((x125 : Int32).toInt64)), TX X K_L_law 23 [some (aR (some 0)), some (aR (some 3)), some (aR (some 26)), some (aR (some 57)), some (aI (x4 + 6)), some (aI x124), some (aI x125), none] [] M12 fin)
    (k51 : ∀ (g1 : ¬ (((Int32.ofNat X.1) - 6) < x4)) (g2 : ¬ (((X.2 x4.toNatClampNeg) &&& 15) = 0)) (g9 : ¬ (((X.2 x4.toNatClampNeg) &&& 15) = 1)) (g16 : ¬ (((X.2 x4.toNatClampNeg) &&& 15) = 2)) (g23 : ((X.2 x4.toNatClampNeg) &&& 15) = 3) (g27 : x126 = x124) (g28 : x124 = 0) (g29 : ¬ ((mJ M12 57 (0 : Int32).toNatClampNeg) = ((x125 : Int32).toInt64))), (.inl (some (aI 0), M12) : Fin') = fin)
    (k52 : ∀ (g1 : ¬ (((Int32.ofNat X.1) - 6) < x4)) (g2 : ¬ (((X.2 x4.toNatClampNeg) &&& 15) = 0)) (g9 : ¬ (((X.2 x4.toNatClampNeg) &&& 15) = 1)) (g16 : ¬ (((X.2 x4.toNatClampNeg) &&& 15) = 2)) (g23 : ((X.2 x4.toNatClampNeg) &&& 15) = 3) (g27 : ¬ x126 = x124), (.inl (some (aI 0), M12) : Fin') = fin)
    (b53 : ∀ (g1 : ¬ (((Int32.ofNat X.1) - 6) < x4)) (g2 : ¬ (((X.2 x4.toNatClampNeg) &&& 15) = 0)) (g9 : ¬ (((X.2 x4.toNatClampNeg) &&& 15) = 1)) (g16 : ¬ (((X.2 x4.toNatClampNeg) &&& 15) = 2)) (g23 : ¬ (((X.2 x4.toNatClampNeg) &&& 15) = 3)) (g30 : ((X.2 x4.toNatClampNeg) &&& 15) = 4), vp_in (x4 + 1) X.1)
    (c54 : ∀ (g1 : ¬ (((Int32.ofNat X.1) - 6) < x4)) (g2 : ¬ (((X.2 x4.toNatClampNeg) &&& 15) = 0)) (g9 : ¬ (((X.2 x4.toNatClampNeg) &&& 15) = 1)) (g16 : ¬ (((X.2 x4.toNatClampNeg) &&& 15) = 2)) (g23 : ¬ (((X.2 x4.toNatClampNeg) &&& 15) = 3)) (g30 : ((X.2 x4.toNatClampNeg) &&& 15) = 4), Tv K_L_check [aR (some 3), aI (X.2 (x4 + 1).toNatClampNeg), aR (some 57)] M (.inl (some (aI x131), M13)))
    (h55 : ∀ (g1 : ¬ (((Int32.ofNat X.1) - 6) < x4)) (g2 : ¬ (((X.2 x4.toNatClampNeg) &&& 15) = 0)) (g9 : ¬ (((X.2 x4.toNatClampNeg) &&& 15) = 1)) (g16 : ¬ (((X.2 x4.toNatClampNeg) &&& 15) = 2)) (g23 : ¬ (((X.2 x4.toNatClampNeg) &&& 15) = 3)) (g30 : ((X.2 x4.toNatClampNeg) &&& 15) = 4), St M13)
    (c56 : ∀ (g1 : ¬ (((Int32.ofNat X.1) - 6) < x4)) (g2 : ¬ (((X.2 x4.toNatClampNeg) &&& 15) = 0)) (g9 : ¬ (((X.2 x4.toNatClampNeg) &&& 15) = 1)) (g16 : ¬ (((X.2 x4.toNatClampNeg) &&& 15) = 2)) (g23 : ¬ (((X.2 x4.toNatClampNeg) &&& 15) = 3)) (g30 : ((X.2 x4.toNatClampNeg) &&& 15) = 4), Ev K_X7_check [aR (some 26), aI (X.2 (x4 + 1).toNatClampNeg)] M13 (some (aI x132)) M14)
    (c57 : ∀ (g1 : ¬ (((Int32.ofNat X.1) - 6) < x4)) (g2 : ¬ (((X.2 x4.toNatClampNeg) &&& 15) = 0)) (g9 : ¬ (((X.2 x4.toNatClampNeg) &&& 15) = 1)) (g16 : ¬ (((X.2 x4.toNatClampNeg) &&& 15) = 2)) (g23 : ¬ (((X.2 x4.toNatClampNeg) &&& 15) = 3)) (g30 : ((X.2 x4.toNatClampNeg) &&& 15) = 4), Ev K_X7_thrown [aR (some 26)] M14 (some (aI x133)) M15)
    (k58 : ∀ (g1 : ¬ (((Int32.ofNat X.1) - 6) < x4)) (g2 : ¬ (((X.2 x4.toNatClampNeg) &&& 15) = 0)) (g9 : ¬ (((X.2 x4.toNatClampNeg) &&& 15) = 1)) (g16 : ¬ (((X.2 x4.toNatClampNeg) &&& 15) = 2)) (g23 : ¬ (((X.2 x4.toNatClampNeg) &&& 15) = 3)) (g30 : ((X.2 x4.toNatClampNeg) &&& 15) = 4) (g34 : x133 = x131) (g35 : ¬ x131 = 0), TX X K_L_law 23 [some (aR (some 0)), some (aR (some 3)), some (aR (some 26)), some (aR (some 57)), some (aI (x4 + 6)), some (aI x131), some (aI x132), none] [] M15 fin)
    (b59 : ∀ (g1 : ¬ (((Int32.ofNat X.1) - 6) < x4)) (g2 : ¬ (((X.2 x4.toNatClampNeg) &&& 15) = 0)) (g9 : ¬ (((X.2 x4.toNatClampNeg) &&& 15) = 1)) (g16 : ¬ (((X.2 x4.toNatClampNeg) &&& 15) = 2)) (g23 : ¬ (((X.2 x4.toNatClampNeg) &&& 15) = 3)) (g30 : ((X.2 x4.toNatClampNeg) &&& 15) = 4) (g34 : x133 = x131) (g35 : x131 = 0), vp_in 0 1)
    (k60 : ∀ (g1 : ¬ (((Int32.ofNat X.1) - 6) < x4)) (g2 : ¬ (((X.2 x4.toNatClampNeg) &&& 15) = 0)) (g9 : ¬ (((X.2 x4.toNatClampNeg) &&& 15) = 1)) (g16 : ¬ (((X.2 x4.toNatClampNeg) &&& 15) = 2)) (g23 : ¬ (((X.2 x4.toNatClampNeg) &&& 15) = 3)) (g30 : ((X.2 x4.toNatClampNeg) &&& 15) = 4) (g34 : x133 = x131) (g35 : x131 = 0) (g36 : (mJ M15 57 (0 : Int32).toNatClampNeg) = ((x132 : Int32).toInt64)), TX X K_L_law 23 [some (aR (some 0)), some (aR (some 3)), some (aR (some 26)), some (aR (some 57)), some (aI (x4 + 6)), some (aI x131), some (aI x132), none] [] M15 fin)
    (k61 : ∀ (g1 : ¬ (((Int32.ofNat X.1) - 6) < x4)) (g2 : ¬ (((X.2 x4.toNatClampNeg) &&& 15) = 0)) (g9 : ¬ (((X.2 x4.toNatClampNeg) &&& 15) = 1)) (g16 : ¬ (((X.2 x4.toNatClampNeg) &&& 15) = 2)) (g23 : ¬ (((X.2 x4.toNatClampNeg) &&& 15) = 3)) (g30 : ((X.2 x4.toNatClampNeg) &&& 15) = 4) (g34 : x133 = x131) (g35 : x131 = 0) (g36 : ¬ ((mJ M15 57 (0 : Int32).toNatClampNeg) = ((x132 : Int32).toInt64))), (.inl (some (aI 0), M15) : Fin') = fin)
    (k62 : ∀ (g1 : ¬ (((Int32.ofNat X.1) - 6) < x4)) (g2 : ¬ (((X.2 x4.toNatClampNeg) &&& 15) = 0)) (g9 : ¬ (((X.2 x4.toNatClampNeg) &&& 15) = 1)) (g16 : ¬ (((X.2 x4.toNatClampNeg) &&& 15) = 2)) (g23 : ¬ (((X.2 x4.toNatClampNeg) &&& 15) = 3)) (g30 : ((X.2 x4.toNatClampNeg) &&& 15) = 4) (g34 : ¬ x133 = x131), (.inl (some (aI 0), M15) : Fin') = fin)
    (c63 : ∀ (g1 : ¬ (((Int32.ofNat X.1) - 6) < x4)) (g2 : ¬ (((X.2 x4.toNatClampNeg) &&& 15) = 0)) (g9 : ¬ (((X.2 x4.toNatClampNeg) &&& 15) = 1)) (g16 : ¬ (((X.2 x4.toNatClampNeg) &&& 15) = 2)) (g23 : ¬ (((X.2 x4.toNatClampNeg) &&& 15) = 3)) (g30 : ¬ (((X.2 x4.toNatClampNeg) &&& 15) = 4)) (g37 : ((X.2 x4.toNatClampNeg) &&& 15) = 5), Ev K_X6_place [aR (some 3)] M (some (aI x138)) M16)
    (c64 : ∀ (g1 : ¬ (((Int32.ofNat X.1) - 6) < x4)) (g2 : ¬ (((X.2 x4.toNatClampNeg) &&& 15) = 0)) (g9 : ¬ (((X.2 x4.toNatClampNeg) &&& 15) = 1)) (g16 : ¬ (((X.2 x4.toNatClampNeg) &&& 15) = 2)) (g23 : ¬ (((X.2 x4.toNatClampNeg) &&& 15) = 3)) (g30 : ¬ (((X.2 x4.toNatClampNeg) &&& 15) = 4)) (g37 : ((X.2 x4.toNatClampNeg) &&& 15) = 5), Ev K_X7_place [aR (some 26)] M16 (some (aI x139)) M17)
    (k65 : ∀ (g1 : ¬ (((Int32.ofNat X.1) - 6) < x4)) (g2 : ¬ (((X.2 x4.toNatClampNeg) &&& 15) = 0)) (g9 : ¬ (((X.2 x4.toNatClampNeg) &&& 15) = 1)) (g16 : ¬ (((X.2 x4.toNatClampNeg) &&& 15) = 2)) (g23 : ¬ (((X.2 x4.toNatClampNeg) &&& 15) = 3)) (g30 : ¬ (((X.2 x4.toNatClampNeg) &&& 15) = 4)) (g37 : ((X.2 x4.toNatClampNeg) &&& 15) = 5) (g40 : x138 = x139), TX X K_L_law 23 [some (aR (some 0)), some (aR (some 3)), some (aR (some 26)), some (aR (some 57)), some (aI (x4 + 6)), none, none, none] [] M17 fin)
    (k66 : ∀ (g1 : ¬ (((Int32.ofNat X.1) - 6) < x4)) (g2 : ¬ (((X.2 x4.toNatClampNeg) &&& 15) = 0)) (g9 : ¬ (((X.2 x4.toNatClampNeg) &&& 15) = 1)) (g16 : ¬ (((X.2 x4.toNatClampNeg) &&& 15) = 2)) (g23 : ¬ (((X.2 x4.toNatClampNeg) &&& 15) = 3)) (g30 : ¬ (((X.2 x4.toNatClampNeg) &&& 15) = 4)) (g37 : ((X.2 x4.toNatClampNeg) &&& 15) = 5) (g40 : ¬ x138 = x139), (.inl (some (aI 0), M17) : Fin') = fin)
    (b67 : ∀ (g1 : ¬ (((Int32.ofNat X.1) - 6) < x4)) (g2 : ¬ (((X.2 x4.toNatClampNeg) &&& 15) = 0)) (g9 : ¬ (((X.2 x4.toNatClampNeg) &&& 15) = 1)) (g16 : ¬ (((X.2 x4.toNatClampNeg) &&& 15) = 2)) (g23 : ¬ (((X.2 x4.toNatClampNeg) &&& 15) = 3)) (g30 : ¬ (((X.2 x4.toNatClampNeg) &&& 15) = 4)) (g37 : ¬ (((X.2 x4.toNatClampNeg) &&& 15) = 5)) (g41 : ((X.2 x4.toNatClampNeg) &&& 15) = 6), vp_in (x4 + 1) X.1)
    (b68 : ∀ (g1 : ¬ (((Int32.ofNat X.1) - 6) < x4)) (g2 : ¬ (((X.2 x4.toNatClampNeg) &&& 15) = 0)) (g9 : ¬ (((X.2 x4.toNatClampNeg) &&& 15) = 1)) (g16 : ¬ (((X.2 x4.toNatClampNeg) &&& 15) = 2)) (g23 : ¬ (((X.2 x4.toNatClampNeg) &&& 15) = 3)) (g30 : ¬ (((X.2 x4.toNatClampNeg) &&& 15) = 4)) (g37 : ¬ (((X.2 x4.toNatClampNeg) &&& 15) = 5)) (g41 : ((X.2 x4.toNatClampNeg) &&& 15) = 6), vp_in (x4 + 2) X.1)
    (c69 : ∀ (g1 : ¬ (((Int32.ofNat X.1) - 6) < x4)) (g2 : ¬ (((X.2 x4.toNatClampNeg) &&& 15) = 0)) (g9 : ¬ (((X.2 x4.toNatClampNeg) &&& 15) = 1)) (g16 : ¬ (((X.2 x4.toNatClampNeg) &&& 15) = 2)) (g23 : ¬ (((X.2 x4.toNatClampNeg) &&& 15) = 3)) (g30 : ¬ (((X.2 x4.toNatClampNeg) &&& 15) = 4)) (g37 : ¬ (((X.2 x4.toNatClampNeg) &&& 15) = 5)) (g41 : ((X.2 x4.toNatClampNeg) &&& 15) = 6), Tv K_L_height [aR (some 3), aI (X.2 (x4 + 1).toNatClampNeg), aI (X.2 (x4 + 2).toNatClampNeg), aR (some 57)] M (.inl (some (aI x142), M18)))
    (h70 : ∀ (g1 : ¬ (((Int32.ofNat X.1) - 6) < x4)) (g2 : ¬ (((X.2 x4.toNatClampNeg) &&& 15) = 0)) (g9 : ¬ (((X.2 x4.toNatClampNeg) &&& 15) = 1)) (g16 : ¬ (((X.2 x4.toNatClampNeg) &&& 15) = 2)) (g23 : ¬ (((X.2 x4.toNatClampNeg) &&& 15) = 3)) (g30 : ¬ (((X.2 x4.toNatClampNeg) &&& 15) = 4)) (g37 : ¬ (((X.2 x4.toNatClampNeg) &&& 15) = 5)) (g41 : ((X.2 x4.toNatClampNeg) &&& 15) = 6), St M18)
    (c71 : ∀ (g1 : ¬ (((Int32.ofNat X.1) - 6) < x4)) (g2 : ¬ (((X.2 x4.toNatClampNeg) &&& 15) = 0)) (g9 : ¬ (((X.2 x4.toNatClampNeg) &&& 15) = 1)) (g16 : ¬ (((X.2 x4.toNatClampNeg) &&& 15) = 2)) (g23 : ¬ (((X.2 x4.toNatClampNeg) &&& 15) = 3)) (g30 : ¬ (((X.2 x4.toNatClampNeg) &&& 15) = 4)) (g37 : ¬ (((X.2 x4.toNatClampNeg) &&& 15) = 5)) (g41 : ((X.2 x4.toNatClampNeg) &&& 15) = 6), Ev K_X7_height [aR (some 26), aI (X.2 (x4 + 1).toNatClampNeg), aI (X.2 (x4 + 2).toNatClampNeg)] M18 (some (aI x143)) M19)
    (c72 : ∀ (g1 : ¬ (((Int32.ofNat X.1) - 6) < x4)) (g2 : ¬ (((X.2 x4.toNatClampNeg) &&& 15) = 0)) (g9 : ¬ (((X.2 x4.toNatClampNeg) &&& 15) = 1)) (g16 : ¬ (((X.2 x4.toNatClampNeg) &&& 15) = 2)) (g23 : ¬ (((X.2 x4.toNatClampNeg) &&& 15) = 3)) (g30 : ¬ (((X.2 x4.toNatClampNeg) &&& 15) = 4)) (g37 : ¬ (((X.2 x4.toNatClampNeg) &&& 15) = 5)) (g41 : ((X.2 x4.toNatClampNeg) &&& 15) = 6), Ev K_X7_thrown [aR (some 26)] M19 (some (aI x144)) M20)
    (k73 : ∀ (g1 : ¬ (((Int32.ofNat X.1) - 6) < x4)) (g2 : ¬ (((X.2 x4.toNatClampNeg) &&& 15) = 0)) (g9 : ¬ (((X.2 x4.toNatClampNeg) &&& 15) = 1)) (g16 : ¬ (((X.2 x4.toNatClampNeg) &&& 15) = 2)) (g23 : ¬ (((X.2 x4.toNatClampNeg) &&& 15) = 3)) (g30 : ¬ (((X.2 x4.toNatClampNeg) &&& 15) = 4)) (g37 : ¬ (((X.2 x4.toNatClampNeg) &&& 15) = 5)) (g41 : ((X.2 x4.toNatClampNeg) &&& 15) = 6) (g45 : x144 = x142) (g46 : ¬ x142 = 0), TX X K_L_law 23 [some (aR (some 0)), some (aR (some 3)), some (aR (some 26)), some (aR (some 57)), some (aI (x4 + 6)), some (aI x142), some (aI x143), none] [] M20 fin)
    (b74 : ∀ (g1 : ¬ (((Int32.ofNat X.1) - 6) < x4)) (g2 : ¬ (((X.2 x4.toNatClampNeg) &&& 15) = 0)) (g9 : ¬ (((X.2 x4.toNatClampNeg) &&& 15) = 1)) (g16 : ¬ (((X.2 x4.toNatClampNeg) &&& 15) = 2)) (g23 : ¬ (((X.2 x4.toNatClampNeg) &&& 15) = 3)) (g30 : ¬ (((X.2 x4.toNatClampNeg) &&& 15) = 4)) (g37 : ¬ (((X.2 x4.toNatClampNeg) &&& 15) = 5)) (g41 : ((X.2 x4.toNatClampNeg) &&& 15) = 6) (g45 : x144 = x142) (g46 : x142 = 0), vp_in 0 1)
    (k75 : ∀ (g1 : ¬ (((Int32.ofNat X.1) - 6) < x4)) (g2 : ¬ (((X.2 x4.toNatClampNeg) &&& 15) = 0)) (g9 : ¬ (((X.2 x4.toNatClampNeg) &&& 15) = 1)) (g16 : ¬ (((X.2 x4.toNatClampNeg) &&& 15) = 2)) (g23 : ¬ (((X.2 x4.toNatClampNeg) &&& 15) = 3)) (g30 : ¬ (((X.2 x4.toNatClampNeg) &&& 15) = 4)) (g37 : ¬ (((X.2 x4.toNatClampNeg) &&& 15) = 5)) (g41 : ((X.2 x4.toNatClampNeg) &&& 15) = 6) (g45 : x144 = x142) (g46 : x142 = 0) (g47 : (mJ M20 57 (0 : Int32).toNatClampNeg) = ((x143 : Int32).toInt64)), TX X K_L_law 23 [some (aR (some 0)), some (aR (some 3)), some (aR (some 26)), some (aR (some 57)), some (aI (x4 + 6)), some (aI x142), some (aI x143), none] [] M20 fin)
    (k76 : ∀ (g1 : ¬ (((Int32.ofNat X.1) - 6) < x4)) (g2 : ¬ (((X.2 x4.toNatClampNeg) &&& 15) = 0)) (g9 : ¬ (((X.2 x4.toNatClampNeg) &&& 15) = 1)) (g16 : ¬ (((X.2 x4.toNatClampNeg) &&& 15) = 2)) (g23 : ¬ (((X.2 x4.toNatClampNeg) &&& 15) = 3)) (g30 : ¬ (((X.2 x4.toNatClampNeg) &&& 15) = 4)) (g37 : ¬ (((X.2 x4.toNatClampNeg) &&& 15) = 5)) (g41 : ((X.2 x4.toNatClampNeg) &&& 15) = 6) (g45 : x144 = x142) (g46 : x142 = 0) (g47 : ¬ ((mJ M20 57 (0 : Int32).toNatClampNeg) = ((x143 : Int32).toInt64))), (.inl (some (aI 0), M20) : Fin') = fin)
    (k77 : ∀ (g1 : ¬ (((Int32.ofNat X.1) - 6) < x4)) (g2 : ¬ (((X.2 x4.toNatClampNeg) &&& 15) = 0)) (g9 : ¬ (((X.2 x4.toNatClampNeg) &&& 15) = 1)) (g16 : ¬ (((X.2 x4.toNatClampNeg) &&& 15) = 2)) (g23 : ¬ (((X.2 x4.toNatClampNeg) &&& 15) = 3)) (g30 : ¬ (((X.2 x4.toNatClampNeg) &&& 15) = 4)) (g37 : ¬ (((X.2 x4.toNatClampNeg) &&& 15) = 5)) (g41 : ((X.2 x4.toNatClampNeg) &&& 15) = 6) (g45 : ¬ x144 = x142), (.inl (some (aI 0), M20) : Fin') = fin)
    (b78 : ∀ (g1 : ¬ (((Int32.ofNat X.1) - 6) < x4)) (g2 : ¬ (((X.2 x4.toNatClampNeg) &&& 15) = 0)) (g9 : ¬ (((X.2 x4.toNatClampNeg) &&& 15) = 1)) (g16 : ¬ (((X.2 x4.toNatClampNeg) &&& 15) = 2)) (g23 : ¬ (((X.2 x4.toNatClampNeg) &&& 15) = 3)) (g30 : ¬ (((X.2 x4.toNatClampNeg) &&& 15) = 4)) (g37 : ¬ (((X.2 x4.toNatClampNeg) &&& 15) = 5)) (g41 : ¬ (((X.2 x4.toNatClampNeg) &&& 15) = 6)) (g48 : ((X.2 x4.toNatClampNeg) &&& 15) = 7), vp_in (x4 + 1) X.1)
    (c79 : ∀ (g1 : ¬ (((Int32.ofNat X.1) - 6) < x4)) (g2 : ¬ (((X.2 x4.toNatClampNeg) &&& 15) = 0)) (g9 : ¬ (((X.2 x4.toNatClampNeg) &&& 15) = 1)) (g16 : ¬ (((X.2 x4.toNatClampNeg) &&& 15) = 2)) (g23 : ¬ (((X.2 x4.toNatClampNeg) &&& 15) = 3)) (g30 : ¬ (((X.2 x4.toNatClampNeg) &&& 15) = 4)) (g37 : ¬ (((X.2 x4.toNatClampNeg) &&& 15) = 5)) (g41 : ¬ (((X.2 x4.toNatClampNeg) &&& 15) = 6)) (g48 : ((X.2 x4.toNatClampNeg) &&& 15) = 7), Tv K_L_analyse [aR (some 3), aI (X.2 (x4 + 1).toNatClampNeg), aR (some 57)] M (.inl (some (aI x149), M21)))
    (h80 : ∀ (g1 : ¬ (((Int32.ofNat X.1) - 6) < x4)) (g2 : ¬ (((X.2 x4.toNatClampNeg) &&& 15) = 0)) (g9 : ¬ (((X.2 x4.toNatClampNeg) &&& 15) = 1)) (g16 : ¬ (((X.2 x4.toNatClampNeg) &&& 15) = 2)) (g23 : ¬ (((X.2 x4.toNatClampNeg) &&& 15) = 3)) (g30 : ¬ (((X.2 x4.toNatClampNeg) &&& 15) = 4)) (g37 : ¬ (((X.2 x4.toNatClampNeg) &&& 15) = 5)) (g41 : ¬ (((X.2 x4.toNatClampNeg) &&& 15) = 6)) (g48 : ((X.2 x4.toNatClampNeg) &&& 15) = 7), St M21)
    (c81 : ∀ (g1 : ¬ (((Int32.ofNat X.1) - 6) < x4)) (g2 : ¬ (((X.2 x4.toNatClampNeg) &&& 15) = 0)) (g9 : ¬ (((X.2 x4.toNatClampNeg) &&& 15) = 1)) (g16 : ¬ (((X.2 x4.toNatClampNeg) &&& 15) = 2)) (g23 : ¬ (((X.2 x4.toNatClampNeg) &&& 15) = 3)) (g30 : ¬ (((X.2 x4.toNatClampNeg) &&& 15) = 4)) (g37 : ¬ (((X.2 x4.toNatClampNeg) &&& 15) = 5)) (g41 : ¬ (((X.2 x4.toNatClampNeg) &&& 15) = 6)) (g48 : ((X.2 x4.toNatClampNeg) &&& 15) = 7), Ev K_X7_analyse [aR (some 26), aI (X.2 (x4 + 1).toNatClampNeg)] M21 (some (aI x150)) M22)
    (c82 : ∀ (g1 : ¬ (((Int32.ofNat X.1) - 6) < x4)) (g2 : ¬ (((X.2 x4.toNatClampNeg) &&& 15) = 0)) (g9 : ¬ (((X.2 x4.toNatClampNeg) &&& 15) = 1)) (g16 : ¬ (((X.2 x4.toNatClampNeg) &&& 15) = 2)) (g23 : ¬ (((X.2 x4.toNatClampNeg) &&& 15) = 3)) (g30 : ¬ (((X.2 x4.toNatClampNeg) &&& 15) = 4)) (g37 : ¬ (((X.2 x4.toNatClampNeg) &&& 15) = 5)) (g41 : ¬ (((X.2 x4.toNatClampNeg) &&& 15) = 6)) (g48 : ((X.2 x4.toNatClampNeg) &&& 15) = 7), Ev K_X7_thrown [aR (some 26)] M22 (some (aI x151)) M23)
    (k83 : ∀ (g1 : ¬ (((Int32.ofNat X.1) - 6) < x4)) (g2 : ¬ (((X.2 x4.toNatClampNeg) &&& 15) = 0)) (g9 : ¬ (((X.2 x4.toNatClampNeg) &&& 15) = 1)) (g16 : ¬ (((X.2 x4.toNatClampNeg) &&& 15) = 2)) (g23 : ¬ (((X.2 x4.toNatClampNeg) &&& 15) = 3)) (g30 : ¬ (((X.2 x4.toNatClampNeg) &&& 15) = 4)) (g37 : ¬ (((X.2 x4.toNatClampNeg) &&& 15) = 5)) (g41 : ¬ (((X.2 x4.toNatClampNeg) &&& 15) = 6)) (g48 : ((X.2 x4.toNatClampNeg) &&& 15) = 7) (g52 : x151 = x149) (g53 : ¬ x149 = 0), TX X K_L_law 23 [some (aR (some 0)), some (aR (some 3)), some (aR (some 26)), some (aR (some 57)), some (aI (x4 + 6)), some (aI x149), some (aI x150), none] [] M23 fin)
    (b84 : ∀ (g1 : ¬ (((Int32.ofNat X.1) - 6) < x4)) (g2 : ¬ (((X.2 x4.toNatClampNeg) &&& 15) = 0)) (g9 : ¬ (((X.2 x4.toNatClampNeg) &&& 15) = 1)) (g16 : ¬ (((X.2 x4.toNatClampNeg) &&& 15) = 2)) (g23 : ¬ (((X.2 x4.toNatClampNeg) &&& 15) = 3)) (g30 : ¬ (((X.2 x4.toNatClampNeg) &&& 15) = 4)) (g37 : ¬ (((X.2 x4.toNatClampNeg) &&& 15) = 5)) (g41 : ¬ (((X.2 x4.toNatClampNeg) &&& 15) = 6)) (g48 : ((X.2 x4.toNatClampNeg) &&& 15) = 7) (g52 : x151 = x149) (g53 : x149 = 0), vp_in 0 1)
    (k85 : ∀ (g1 : ¬ (((Int32.ofNat X.1) - 6) < x4)) (g2 : ¬ (((X.2 x4.toNatClampNeg) &&& 15) = 0)) (g9 : ¬ (((X.2 x4.toNatClampNeg) &&& 15) = 1)) (g16 : ¬ (((X.2 x4.toNatClampNeg) &&& 15) = 2)) (g23 : ¬ (((X.2 x4.toNatClampNeg) &&& 15) = 3)) (g30 : ¬ (((X.2 x4.toNatClampNeg) &&& 15) = 4)) (g37 : ¬ (((X.2 x4.toNatClampNeg) &&& 15) = 5)) (g41 : ¬ (((X.2 x4.toNatClampNeg) &&& 15) = 6)) (g48 : ((X.2 x4.toNatClampNeg) &&& 15) = 7) (g52 : x151 = x149) (g53 : x149 = 0) (g54 : (mJ M23 57 (0 : Int32).toNatClampNeg) = ((x150 : Int32).toInt64)), TX X K_L_law 23 [some (aR (some 0)), some (aR (some 3)), some (aR (some 26)), some (aR (some 57)), some (aI (x4 + 6)), some (aI x149), some (aI x150), none] [] M23 fin)
    (k86 : ∀ (g1 : ¬ (((Int32.ofNat X.1) - 6) < x4)) (g2 : ¬ (((X.2 x4.toNatClampNeg) &&& 15) = 0)) (g9 : ¬ (((X.2 x4.toNatClampNeg) &&& 15) = 1)) (g16 : ¬ (((X.2 x4.toNatClampNeg) &&& 15) = 2)) (g23 : ¬ (((X.2 x4.toNatClampNeg) &&& 15) = 3)) (g30 : ¬ (((X.2 x4.toNatClampNeg) &&& 15) = 4)) (g37 : ¬ (((X.2 x4.toNatClampNeg) &&& 15) = 5)) (g41 : ¬ (((X.2 x4.toNatClampNeg) &&& 15) = 6)) (g48 : ((X.2 x4.toNatClampNeg) &&& 15) = 7) (g52 : x151 = x149) (g53 : x149 = 0) (g54 : ¬ ((mJ M23 57 (0 : Int32).toNatClampNeg) = ((x150 : Int32).toInt64))), (.inl (some (aI 0), M23) : Fin') = fin)
    (k87 : ∀ (g1 : ¬ (((Int32.ofNat X.1) - 6) < x4)) (g2 : ¬ (((X.2 x4.toNatClampNeg) &&& 15) = 0)) (g9 : ¬ (((X.2 x4.toNatClampNeg) &&& 15) = 1)) (g16 : ¬ (((X.2 x4.toNatClampNeg) &&& 15) = 2)) (g23 : ¬ (((X.2 x4.toNatClampNeg) &&& 15) = 3)) (g30 : ¬ (((X.2 x4.toNatClampNeg) &&& 15) = 4)) (g37 : ¬ (((X.2 x4.toNatClampNeg) &&& 15) = 5)) (g41 : ¬ (((X.2 x4.toNatClampNeg) &&& 15) = 6)) (g48 : ((X.2 x4.toNatClampNeg) &&& 15) = 7) (g52 : ¬ x151 = x149), (.inl (some (aI 0), M23) : Fin') = fin)
    (b88 : ∀ (g1 : ¬ (((Int32.ofNat X.1) - 6) < x4)) (g2 : ¬ (((X.2 x4.toNatClampNeg) &&& 15) = 0)) (g9 : ¬ (((X.2 x4.toNatClampNeg) &&& 15) = 1)) (g16 : ¬ (((X.2 x4.toNatClampNeg) &&& 15) = 2)) (g23 : ¬ (((X.2 x4.toNatClampNeg) &&& 15) = 3)) (g30 : ¬ (((X.2 x4.toNatClampNeg) &&& 15) = 4)) (g37 : ¬ (((X.2 x4.toNatClampNeg) &&& 15) = 5)) (g41 : ¬ (((X.2 x4.toNatClampNeg) &&& 15) = 6)) (g48 : ¬ (((X.2 x4.toNatClampNeg) &&& 15) = 7)) (g55 : ((X.2 x4.toNatClampNeg) &&& 15) = 8), vp_in (x4 + 1) X.1)
    (b89 : ∀ (g1 : ¬ (((Int32.ofNat X.1) - 6) < x4)) (g2 : ¬ (((X.2 x4.toNatClampNeg) &&& 15) = 0)) (g9 : ¬ (((X.2 x4.toNatClampNeg) &&& 15) = 1)) (g16 : ¬ (((X.2 x4.toNatClampNeg) &&& 15) = 2)) (g23 : ¬ (((X.2 x4.toNatClampNeg) &&& 15) = 3)) (g30 : ¬ (((X.2 x4.toNatClampNeg) &&& 15) = 4)) (g37 : ¬ (((X.2 x4.toNatClampNeg) &&& 15) = 5)) (g41 : ¬ (((X.2 x4.toNatClampNeg) &&& 15) = 6)) (g48 : ¬ (((X.2 x4.toNatClampNeg) &&& 15) = 7)) (g55 : ((X.2 x4.toNatClampNeg) &&& 15) = 8), vp_in (x4 + 2) X.1)
    (c90 : ∀ (g1 : ¬ (((Int32.ofNat X.1) - 6) < x4)) (g2 : ¬ (((X.2 x4.toNatClampNeg) &&& 15) = 0)) (g9 : ¬ (((X.2 x4.toNatClampNeg) &&& 15) = 1)) (g16 : ¬ (((X.2 x4.toNatClampNeg) &&& 15) = 2)) (g23 : ¬ (((X.2 x4.toNatClampNeg) &&& 15) = 3)) (g30 : ¬ (((X.2 x4.toNatClampNeg) &&& 15) = 4)) (g37 : ¬ (((X.2 x4.toNatClampNeg) &&& 15) = 5)) (g41 : ¬ (((X.2 x4.toNatClampNeg) &&& 15) = 6)) (g48 : ¬ (((X.2 x4.toNatClampNeg) &&& 15) = 7)) (g55 : ((X.2 x4.toNatClampNeg) &&& 15) = 8), Tv K_L_told [aR (some 3), aI (X.2 (x4 + 1).toNatClampNeg), aI (X.2 (x4 + 2).toNatClampNeg), aR (some 57)] M (.inl (some (aI x156), M24)))
    (h91 : ∀ (g1 : ¬ (((Int32.ofNat X.1) - 6) < x4)) (g2 : ¬ (((X.2 x4.toNatClampNeg) &&& 15) = 0)) (g9 : ¬ (((X.2 x4.toNatClampNeg) &&& 15) = 1)) (g16 : ¬ (((X.2 x4.toNatClampNeg) &&& 15) = 2)) (g23 : ¬ (((X.2 x4.toNatClampNeg) &&& 15) = 3)) (g30 : ¬ (((X.2 x4.toNatClampNeg) &&& 15) = 4)) (g37 : ¬ (((X.2 x4.toNatClampNeg) &&& 15) = 5)) (g41 : ¬ (((X.2 x4.toNatClampNeg) &&& 15) = 6)) (g48 : ¬ (((X.2 x4.toNatClampNeg) &&& 15) = 7)) (g55 : ((X.2 x4.toNatClampNeg) &&& 15) = 8), St M24)
    (c92 : ∀ (g1 : ¬ (((Int32.ofNat X.1) - 6) < x4)) (g2 : ¬ (((X.2 x4.toNatClampNeg) &&& 15) = 0)) (g9 : ¬ (((X.2 x4.toNatClampNeg) &&& 15) = 1)) (g16 : ¬ (((X.2 x4.toNatClampNeg) &&& 15) = 2)) (g23 : ¬ (((X.2 x4.toNatClampNeg) &&& 15) = 3)) (g30 : ¬ (((X.2 x4.toNatClampNeg) &&& 15) = 4)) (g37 : ¬ (((X.2 x4.toNatClampNeg) &&& 15) = 5)) (g41 : ¬ (((X.2 x4.toNatClampNeg) &&& 15) = 6)) (g48 : ¬ (((X.2 x4.toNatClampNeg) &&& 15) = 7)) (g55 : ((X.2 x4.toNatClampNeg) &&& 15) = 8), Ev K_X7_told [aR (some 26), aI (X.2 (x4 + 1).toNatClampNeg), aI (X.2 (x4 + 2).toNatClampNeg)] M24 (some (aI x157)) M25)
    (c93 : ∀ (g1 : ¬ (((Int32.ofNat X.1) - 6) < x4)) (g2 : ¬ (((X.2 x4.toNatClampNeg) &&& 15) = 0)) (g9 : ¬ (((X.2 x4.toNatClampNeg) &&& 15) = 1)) (g16 : ¬ (((X.2 x4.toNatClampNeg) &&& 15) = 2)) (g23 : ¬ (((X.2 x4.toNatClampNeg) &&& 15) = 3)) (g30 : ¬ (((X.2 x4.toNatClampNeg) &&& 15) = 4)) (g37 : ¬ (((X.2 x4.toNatClampNeg) &&& 15) = 5)) (g41 : ¬ (((X.2 x4.toNatClampNeg) &&& 15) = 6)) (g48 : ¬ (((X.2 x4.toNatClampNeg) &&& 15) = 7)) (g55 : ((X.2 x4.toNatClampNeg) &&& 15) = 8), Ev K_X7_thrown [aR (some 26)] M25 (some (aI x158)) M26)
    (k94 : ∀ (g1 : ¬ (((Int32.ofNat X.1) - 6) < x4)) (g2 : ¬ (((X.2 x4.toNatClampNeg) &&& 15) = 0)) (g9 : ¬ (((X.2 x4.toNatClampNeg) &&& 15) = 1)) (g16 : ¬ (((X.2 x4.toNatClampNeg) &&& 15) = 2)) (g23 : ¬ (((X.2 x4.toNatClampNeg) &&& 15) = 3)) (g30 : ¬ (((X.2 x4.toNatClampNeg) &&& 15) = 4)) (g37 : ¬ (((X.2 x4.toNatClampNeg) &&& 15) = 5)) (g41 : ¬ (((X.2 x4.toNatClampNeg) &&& 15) = 6)) (g48 : ¬ (((X.2 x4.toNatClampNeg) &&& 15) = 7)) (g55 : ((X.2 x4.toNatClampNeg) &&& 15) = 8) (g59 : x158 = x156) (g60 : ¬ x156 = 0), TX X K_L_law 23 [some (aR (some 0)), some (aR (some 3)), some (aR (some 26)), some (aR (some 57)), some (aI (x4 + 6)), some (aI x156), some (aI x157), none] [] M26 fin)
    (b95 : ∀ (g1 : ¬ (((Int32.ofNat X.1) - 6) < x4)) (g2 : ¬ (((X.2 x4.toNatClampNeg) &&& 15) = 0)) (g9 : ¬ (((X.2 x4.toNatClampNeg) &&& 15) = 1)) (g16 : ¬ (((X.2 x4.toNatClampNeg) &&& 15) = 2)) (g23 : ¬ (((X.2 x4.toNatClampNeg) &&& 15) = 3)) (g30 : ¬ (((X.2 x4.toNatClampNeg) &&& 15) = 4)) (g37 : ¬ (((X.2 x4.toNatClampNeg) &&& 15) = 5)) (g41 : ¬ (((X.2 x4.toNatClampNeg) &&& 15) = 6)) (g48 : ¬ (((X.2 x4.toNatClampNeg) &&& 15) = 7)) (g55 : ((X.2 x4.toNatClampNeg) &&& 15) = 8) (g59 : x158 = x156) (g60 : x156 = 0), vp_in 0 1)
    (k96 : ∀ (g1 : ¬ (((Int32.ofNat X.1) - 6) < x4)) (g2 : ¬ (((X.2 x4.toNatClampNeg) &&& 15) = 0)) (g9 : ¬ (((X.2 x4.toNatClampNeg) &&& 15) = 1)) (g16 : ¬ (((X.2 x4.toNatClampNeg) &&& 15) = 2)) (g23 : ¬ (((X.2 x4.toNatClampNeg) &&& 15) = 3)) (g30 : ¬ (((X.2 x4.toNatClampNeg) &&& 15) = 4)) (g37 : ¬ (((X.2 x4.toNatClampNeg) &&& 15) = 5)) (g41 : ¬ (((X.2 x4.toNatClampNeg) &&& 15) = 6)) (g48 : ¬ (((X.2 x4.toNatClampNeg) &&& 15) = 7)) (g55 : ((X.2 x4.toNatClampNeg) &&& 15) = 8) (g59 : x158 = x156) (g60 : x156 = 0) (g61 : (mJ M26 57 (0 : Int32).toNatClampNeg) = ((x157 : Int32).toInt64)), TX X K_L_law 23 [some (aR (some 0)), some (aR (some 3)), some (aR (some 26)), some (aR (some 57)), some (aI (x4 + 6)), some (aI x156), some (aI x157), none] [] M26 fin)
    (k97 : ∀ (g1 : ¬ (((Int32.ofNat X.1) - 6) < x4)) (g2 : ¬ (((X.2 x4.toNatClampNeg) &&& 15) = 0)) (g9 : ¬ (((X.2 x4.toNatClampNeg) &&& 15) = 1)) (g16 : ¬ (((X.2 x4.toNatClampNeg) &&& 15) = 2)) (g23 : ¬ (((X.2 x4.toNatClampNeg) &&& 15) = 3)) (g30 : ¬ (((X.2 x4.toNatClampNeg) &&& 15) = 4)) (g37 : ¬ (((X.2 x4.toNatClampNeg) &&& 15) = 5)) (g41 : ¬ (((X.2 x4.toNatClampNeg) &&& 15) = 6)) (g48 : ¬ (((X.2 x4.toNatClampNeg) &&& 15) = 7)) (g55 : ((X.2 x4.toNatClampNeg) &&& 15) = 8) (g59 : x158 = x156) (g60 : x156 = 0) (g61 : ¬ ((mJ M26 57 (0 : Int32).toNatClampNeg) = ((x157 : Int32).toInt64))), (.inl (some (aI 0), M26) : Fin') = fin)
    (k98 : ∀ (g1 : ¬ (((Int32.ofNat X.1) - 6) < x4)) (g2 : ¬ (((X.2 x4.toNatClampNeg) &&& 15) = 0)) (g9 : ¬ (((X.2 x4.toNatClampNeg) &&& 15) = 1)) (g16 : ¬ (((X.2 x4.toNatClampNeg) &&& 15) = 2)) (g23 : ¬ (((X.2 x4.toNatClampNeg) &&& 15) = 3)) (g30 : ¬ (((X.2 x4.toNatClampNeg) &&& 15) = 4)) (g37 : ¬ (((X.2 x4.toNatClampNeg) &&& 15) = 5)) (g41 : ¬ (((X.2 x4.toNatClampNeg) &&& 15) = 6)) (g48 : ¬ (((X.2 x4.toNatClampNeg) &&& 15) = 7)) (g55 : ((X.2 x4.toNatClampNeg) &&& 15) = 8) (g59 : ¬ x158 = x156), (.inl (some (aI 0), M26) : Fin') = fin)
    (b99 : ∀ (g1 : ¬ (((Int32.ofNat X.1) - 6) < x4)) (g2 : ¬ (((X.2 x4.toNatClampNeg) &&& 15) = 0)) (g9 : ¬ (((X.2 x4.toNatClampNeg) &&& 15) = 1)) (g16 : ¬ (((X.2 x4.toNatClampNeg) &&& 15) = 2)) (g23 : ¬ (((X.2 x4.toNatClampNeg) &&& 15) = 3)) (g30 : ¬ (((X.2 x4.toNatClampNeg) &&& 15) = 4)) (g37 : ¬ (((X.2 x4.toNatClampNeg) &&& 15) = 5)) (g41 : ¬ (((X.2 x4.toNatClampNeg) &&& 15) = 6)) (g48 : ¬ (((X.2 x4.toNatClampNeg) &&& 15) = 7)) (g55 : ¬ (((X.2 x4.toNatClampNeg) &&& 15) = 8)) (g62 : ((X.2 x4.toNatClampNeg) &&& 15) = 9), vp_in (x4 + 1) X.1)
    (b100 : ∀ (g1 : ¬ (((Int32.ofNat X.1) - 6) < x4)) (g2 : ¬ (((X.2 x4.toNatClampNeg) &&& 15) = 0)) (g9 : ¬ (((X.2 x4.toNatClampNeg) &&& 15) = 1)) (g16 : ¬ (((X.2 x4.toNatClampNeg) &&& 15) = 2)) (g23 : ¬ (((X.2 x4.toNatClampNeg) &&& 15) = 3)) (g30 : ¬ (((X.2 x4.toNatClampNeg) &&& 15) = 4)) (g37 : ¬ (((X.2 x4.toNatClampNeg) &&& 15) = 5)) (g41 : ¬ (((X.2 x4.toNatClampNeg) &&& 15) = 6)) (g48 : ¬ (((X.2 x4.toNatClampNeg) &&& 15) = 7)) (g55 : ¬ (((X.2 x4.toNatClampNeg) &&& 15) = 8)) (g62 : ((X.2 x4.toNatClampNeg) &&& 15) = 9), vp_in (x4 + 2) X.1)
    (c101 : ∀ (g1 : ¬ (((Int32.ofNat X.1) - 6) < x4)) (g2 : ¬ (((X.2 x4.toNatClampNeg) &&& 15) = 0)) (g9 : ¬ (((X.2 x4.toNatClampNeg) &&& 15) = 1)) (g16 : ¬ (((X.2 x4.toNatClampNeg) &&& 15) = 2)) (g23 : ¬ (((X.2 x4.toNatClampNeg) &&& 15) = 3)) (g30 : ¬ (((X.2 x4.toNatClampNeg) &&& 15) = 4)) (g37 : ¬ (((X.2 x4.toNatClampNeg) &&& 15) = 5)) (g41 : ¬ (((X.2 x4.toNatClampNeg) &&& 15) = 6)) (g48 : ¬ (((X.2 x4.toNatClampNeg) &&& 15) = 7)) (g55 : ¬ (((X.2 x4.toNatClampNeg) &&& 15) = 8)) (g62 : ((X.2 x4.toNatClampNeg) &&& 15) = 9), Tv K_L_bound [aR (some 3), aI (X.2 (x4 + 1).toNatClampNeg), aI (X.2 (x4 + 2).toNatClampNeg), aR (some 57)] M (.inl (some (aI x163), M27)))
    (h102 : ∀ (g1 : ¬ (((Int32.ofNat X.1) - 6) < x4)) (g2 : ¬ (((X.2 x4.toNatClampNeg) &&& 15) = 0)) (g9 : ¬ (((X.2 x4.toNatClampNeg) &&& 15) = 1)) (g16 : ¬ (((X.2 x4.toNatClampNeg) &&& 15) = 2)) (g23 : ¬ (((X.2 x4.toNatClampNeg) &&& 15) = 3)) (g30 : ¬ (((X.2 x4.toNatClampNeg) &&& 15) = 4)) (g37 : ¬ (((X.2 x4.toNatClampNeg) &&& 15) = 5)) (g41 : ¬ (((X.2 x4.toNatClampNeg) &&& 15) = 6)) (g48 : ¬ (((X.2 x4.toNatClampNeg) &&& 15) = 7)) (g55 : ¬ (((X.2 x4.toNatClampNeg) &&& 15) = 8)) (g62 : ((X.2 x4.toNatClampNeg) &&& 15) = 9), St M27)
    (c103 : ∀ (g1 : ¬ (((Int32.ofNat X.1) - 6) < x4)) (g2 : ¬ (((X.2 x4.toNatClampNeg) &&& 15) = 0)) (g9 : ¬ (((X.2 x4.toNatClampNeg) &&& 15) = 1)) (g16 : ¬ (((X.2 x4.toNatClampNeg) &&& 15) = 2)) (g23 : ¬ (((X.2 x4.toNatClampNeg) &&& 15) = 3)) (g30 : ¬ (((X.2 x4.toNatClampNeg) &&& 15) = 4)) (g37 : ¬ (((X.2 x4.toNatClampNeg) &&& 15) = 5)) (g41 : ¬ (((X.2 x4.toNatClampNeg) &&& 15) = 6)) (g48 : ¬ (((X.2 x4.toNatClampNeg) &&& 15) = 7)) (g55 : ¬ (((X.2 x4.toNatClampNeg) &&& 15) = 8)) (g62 : ((X.2 x4.toNatClampNeg) &&& 15) = 9), Ev K_X7_bound [aR (some 26), aI (X.2 (x4 + 1).toNatClampNeg), aI (X.2 (x4 + 2).toNatClampNeg)] M27 (some (aJ x164)) M28)
    (c104 : ∀ (g1 : ¬ (((Int32.ofNat X.1) - 6) < x4)) (g2 : ¬ (((X.2 x4.toNatClampNeg) &&& 15) = 0)) (g9 : ¬ (((X.2 x4.toNatClampNeg) &&& 15) = 1)) (g16 : ¬ (((X.2 x4.toNatClampNeg) &&& 15) = 2)) (g23 : ¬ (((X.2 x4.toNatClampNeg) &&& 15) = 3)) (g30 : ¬ (((X.2 x4.toNatClampNeg) &&& 15) = 4)) (g37 : ¬ (((X.2 x4.toNatClampNeg) &&& 15) = 5)) (g41 : ¬ (((X.2 x4.toNatClampNeg) &&& 15) = 6)) (g48 : ¬ (((X.2 x4.toNatClampNeg) &&& 15) = 7)) (g55 : ¬ (((X.2 x4.toNatClampNeg) &&& 15) = 8)) (g62 : ((X.2 x4.toNatClampNeg) &&& 15) = 9), Ev K_X7_thrown [aR (some 26)] M28 (some (aI x165)) M29)
    (k105 : ∀ (g1 : ¬ (((Int32.ofNat X.1) - 6) < x4)) (g2 : ¬ (((X.2 x4.toNatClampNeg) &&& 15) = 0)) (g9 : ¬ (((X.2 x4.toNatClampNeg) &&& 15) = 1)) (g16 : ¬ (((X.2 x4.toNatClampNeg) &&& 15) = 2)) (g23 : ¬ (((X.2 x4.toNatClampNeg) &&& 15) = 3)) (g30 : ¬ (((X.2 x4.toNatClampNeg) &&& 15) = 4)) (g37 : ¬ (((X.2 x4.toNatClampNeg) &&& 15) = 5)) (g41 : ¬ (((X.2 x4.toNatClampNeg) &&& 15) = 6)) (g48 : ¬ (((X.2 x4.toNatClampNeg) &&& 15) = 7)) (g55 : ¬ (((X.2 x4.toNatClampNeg) &&& 15) = 8)) (g62 : ((X.2 x4.toNatClampNeg) &&& 15) = 9) (g66 : x165 = x163) (g67 : ¬ x163 = 0), TX X K_L_law 23 [some (aR (some 0)), some (aR (some 3)), some (aR (some 26)), some (aR (some 57)), some (aI (x4 + 6)), some (aI x163), some (aJ x164), none] [] M29 fin)
    (b106 : ∀ (g1 : ¬ (((Int32.ofNat X.1) - 6) < x4)) (g2 : ¬ (((X.2 x4.toNatClampNeg) &&& 15) = 0)) (g9 : ¬ (((X.2 x4.toNatClampNeg) &&& 15) = 1)) (g16 : ¬ (((X.2 x4.toNatClampNeg) &&& 15) = 2)) (g23 : ¬ (((X.2 x4.toNatClampNeg) &&& 15) = 3)) (g30 : ¬ (((X.2 x4.toNatClampNeg) &&& 15) = 4)) (g37 : ¬ (((X.2 x4.toNatClampNeg) &&& 15) = 5)) (g41 : ¬ (((X.2 x4.toNatClampNeg) &&& 15) = 6)) (g48 : ¬ (((X.2 x4.toNatClampNeg) &&& 15) = 7)) (g55 : ¬ (((X.2 x4.toNatClampNeg) &&& 15) = 8)) (g62 : ((X.2 x4.toNatClampNeg) &&& 15) = 9) (g66 : x165 = x163) (g67 : x163 = 0), vp_in 0 1)
    (k107 : ∀ (g1 : ¬ (((Int32.ofNat X.1) - 6) < x4)) (g2 : ¬ (((X.2 x4.toNatClampNeg) &&& 15) = 0)) (g9 : ¬ (((X.2 x4.toNatClampNeg) &&& 15) = 1)) (g16 : ¬ (((X.2 x4.toNatClampNeg) &&& 15) = 2)) (g23 : ¬ (((X.2 x4.toNatClampNeg) &&& 15) = 3)) (g30 : ¬ (((X.2 x4.toNatClampNeg) &&& 15) = 4)) (g37 : ¬ (((X.2 x4.toNatClampNeg) &&& 15) = 5)) (g41 : ¬ (((X.2 x4.toNatClampNeg) &&& 15) = 6)) (g48 : ¬ (((X.2 x4.toNatClampNeg) &&& 15) = 7)) (g55 : ¬ (((X.2 x4.toNatClampNeg) &&& 15) = 8)) (g62 : ((X.2 x4.toNatClampNeg) &&& 15) = 9) (g66 : x165 = x163) (g67 : x163 = 0) (g68 : (mJ M29 57 (0 : Int32).toNatClampNeg) = x164), TX X K_L_law 23 [some (aR (some 0)), some (aR (some 3)), some (aR (some 26)), some (aR (some 57)), some (aI (x4 + 6)), some (aI x163), some (aJ x164), none] [] M29 fin)
    (k108 : ∀ (g1 : ¬ (((Int32.ofNat X.1) - 6) < x4)) (g2 : ¬ (((X.2 x4.toNatClampNeg) &&& 15) = 0)) (g9 : ¬ (((X.2 x4.toNatClampNeg) &&& 15) = 1)) (g16 : ¬ (((X.2 x4.toNatClampNeg) &&& 15) = 2)) (g23 : ¬ (((X.2 x4.toNatClampNeg) &&& 15) = 3)) (g30 : ¬ (((X.2 x4.toNatClampNeg) &&& 15) = 4)) (g37 : ¬ (((X.2 x4.toNatClampNeg) &&& 15) = 5)) (g41 : ¬ (((X.2 x4.toNatClampNeg) &&& 15) = 6)) (g48 : ¬ (((X.2 x4.toNatClampNeg) &&& 15) = 7)) (g55 : ¬ (((X.2 x4.toNatClampNeg) &&& 15) = 8)) (g62 : ((X.2 x4.toNatClampNeg) &&& 15) = 9) (g66 : x165 = x163) (g67 : x163 = 0) (g68 : ¬ ((mJ M29 57 (0 : Int32).toNatClampNeg) = x164)), (.inl (some (aI 0), M29) : Fin') = fin)
    (k109 : ∀ (g1 : ¬ (((Int32.ofNat X.1) - 6) < x4)) (g2 : ¬ (((X.2 x4.toNatClampNeg) &&& 15) = 0)) (g9 : ¬ (((X.2 x4.toNatClampNeg) &&& 15) = 1)) (g16 : ¬ (((X.2 x4.toNatClampNeg) &&& 15) = 2)) (g23 : ¬ (((X.2 x4.toNatClampNeg) &&& 15) = 3)) (g30 : ¬ (((X.2 x4.toNatClampNeg) &&& 15) = 4)) (g37 : ¬ (((X.2 x4.toNatClampNeg) &&& 15) = 5)) (g41 : ¬ (((X.2 x4.toNatClampNeg) &&& 15) = 6)) (g48 : ¬ (((X.2 x4.toNatClampNeg) &&& 15) = 7)) (g55 : ¬ (((X.2 x4.toNatClampNeg) &&& 15) = 8)) (g62 : ((X.2 x4.toNatClampNeg) &&& 15) = 9) (g66 : ¬ x165 = x163), (.inl (some (aI 0), M29) : Fin') = fin)
    (b110 : ∀ (g1 : ¬ (((Int32.ofNat X.1) - 6) < x4)) (g2 : ¬ (((X.2 x4.toNatClampNeg) &&& 15) = 0)) (g9 : ¬ (((X.2 x4.toNatClampNeg) &&& 15) = 1)) (g16 : ¬ (((X.2 x4.toNatClampNeg) &&& 15) = 2)) (g23 : ¬ (((X.2 x4.toNatClampNeg) &&& 15) = 3)) (g30 : ¬ (((X.2 x4.toNatClampNeg) &&& 15) = 4)) (g37 : ¬ (((X.2 x4.toNatClampNeg) &&& 15) = 5)) (g41 : ¬ (((X.2 x4.toNatClampNeg) &&& 15) = 6)) (g48 : ¬ (((X.2 x4.toNatClampNeg) &&& 15) = 7)) (g55 : ¬ (((X.2 x4.toNatClampNeg) &&& 15) = 8)) (g62 : ¬ (((X.2 x4.toNatClampNeg) &&& 15) = 9)) (g69 : ((X.2 x4.toNatClampNeg) &&& 15) = 10), vp_in (x4 + 1) X.1)
    (b111 : ∀ (g1 : ¬ (((Int32.ofNat X.1) - 6) < x4)) (g2 : ¬ (((X.2 x4.toNatClampNeg) &&& 15) = 0)) (g9 : ¬ (((X.2 x4.toNatClampNeg) &&& 15) = 1)) (g16 : ¬ (((X.2 x4.toNatClampNeg) &&& 15) = 2)) (g23 : ¬ (((X.2 x4.toNatClampNeg) &&& 15) = 3)) (g30 : ¬ (((X.2 x4.toNatClampNeg) &&& 15) = 4)) (g37 : ¬ (((X.2 x4.toNatClampNeg) &&& 15) = 5)) (g41 : ¬ (((X.2 x4.toNatClampNeg) &&& 15) = 6)) (g48 : ¬ (((X.2 x4.toNatClampNeg) &&& 15) = 7)) (g55 : ¬ (((X.2 x4.toNatClampNeg) &&& 15) = 8)) (g62 : ¬ (((X.2 x4.toNatClampNeg) &&& 15) = 9)) (g69 : ((X.2 x4.toNatClampNeg) &&& 15) = 10), vp_in (x4 + 2) X.1)
    (c112 : ∀ (g1 : ¬ (((Int32.ofNat X.1) - 6) < x4)) (g2 : ¬ (((X.2 x4.toNatClampNeg) &&& 15) = 0)) (g9 : ¬ (((X.2 x4.toNatClampNeg) &&& 15) = 1)) (g16 : ¬ (((X.2 x4.toNatClampNeg) &&& 15) = 2)) (g23 : ¬ (((X.2 x4.toNatClampNeg) &&& 15) = 3)) (g30 : ¬ (((X.2 x4.toNatClampNeg) &&& 15) = 4)) (g37 : ¬ (((X.2 x4.toNatClampNeg) &&& 15) = 5)) (g41 : ¬ (((X.2 x4.toNatClampNeg) &&& 15) = 6)) (g48 : ¬ (((X.2 x4.toNatClampNeg) &&& 15) = 7)) (g55 : ¬ (((X.2 x4.toNatClampNeg) &&& 15) = 8)) (g62 : ¬ (((X.2 x4.toNatClampNeg) &&& 15) = 9)) (g69 : ((X.2 x4.toNatClampNeg) &&& 15) = 10), Tv K_L_argument [aR (some 3), aJ ((((X.2 (x4 + 1).toNatClampNeg : Int32).toInt64) <<< ((32 : Int32).toInt64 &&& 63)) ||| (((X.2 (x4 + 2).toNatClampNeg : Int32).toInt64) &&& 4294967295)), aR (some 57)] M (.inl (some (aI x170), M30)))
    (h113 : ∀ (g1 : ¬ (((Int32.ofNat X.1) - 6) < x4)) (g2 : ¬ (((X.2 x4.toNatClampNeg) &&& 15) = 0)) (g9 : ¬ (((X.2 x4.toNatClampNeg) &&& 15) = 1)) (g16 : ¬ (((X.2 x4.toNatClampNeg) &&& 15) = 2)) (g23 : ¬ (((X.2 x4.toNatClampNeg) &&& 15) = 3)) (g30 : ¬ (((X.2 x4.toNatClampNeg) &&& 15) = 4)) (g37 : ¬ (((X.2 x4.toNatClampNeg) &&& 15) = 5)) (g41 : ¬ (((X.2 x4.toNatClampNeg) &&& 15) = 6)) (g48 : ¬ (((X.2 x4.toNatClampNeg) &&& 15) = 7)) (g55 : ¬ (((X.2 x4.toNatClampNeg) &&& 15) = 8)) (g62 : ¬ (((X.2 x4.toNatClampNeg) &&& 15) = 9)) (g69 : ((X.2 x4.toNatClampNeg) &&& 15) = 10), St M30)
    (c114 : ∀ (g1 : ¬ (((Int32.ofNat X.1) - 6) < x4)) (g2 : ¬ (((X.2 x4.toNatClampNeg) &&& 15) = 0)) (g9 : ¬ (((X.2 x4.toNatClampNeg) &&& 15) = 1)) (g16 : ¬ (((X.2 x4.toNatClampNeg) &&& 15) = 2)) (g23 : ¬ (((X.2 x4.toNatClampNeg) &&& 15) = 3)) (g30 : ¬ (((X.2 x4.toNatClampNeg) &&& 15) = 4)) (g37 : ¬ (((X.2 x4.toNatClampNeg) &&& 15) = 5)) (g41 : ¬ (((X.2 x4.toNatClampNeg) &&& 15) = 6)) (g48 : ¬ (((X.2 x4.toNatClampNeg) &&& 15) = 7)) (g55 : ¬ (((X.2 x4.toNatClampNeg) &&& 15) = 8)) (g62 : ¬ (((X.2 x4.toNatClampNeg) &&& 15) = 9)) (g69 : ((X.2 x4.toNatClampNeg) &&& 15) = 10), Ev K_X7_argument [aR (some 26), aJ ((((X.2 (x4 + 1).toNatClampNeg : Int32).toInt64) <<< ((32 : Int32).toInt64 &&& 63)) ||| (((X.2 (x4 + 2).toNatClampNeg : Int32).toInt64) &&& 4294967295))] M30 (some (aI x171)) M31)
    (c115 : ∀ (g1 : ¬ (((Int32.ofNat X.1) - 6) < x4)) (g2 : ¬ (((X.2 x4.toNatClampNeg) &&& 15) = 0)) (g9 : ¬ (((X.2 x4.toNatClampNeg) &&& 15) = 1)) (g16 : ¬ (((X.2 x4.toNatClampNeg) &&& 15) = 2)) (g23 : ¬ (((X.2 x4.toNatClampNeg) &&& 15) = 3)) (g30 : ¬ (((X.2 x4.toNatClampNeg) &&& 15) = 4)) (g37 : ¬ (((X.2 x4.toNatClampNeg) &&& 15) = 5)) (g41 : ¬ (((X.2 x4.toNatClampNeg) &&& 15) = 6)) (g48 : ¬ (((X.2 x4.toNatClampNeg) &&& 15) = 7)) (g55 : ¬ (((X.2 x4.toNatClampNeg) &&& 15) = 8)) (g62 : ¬ (((X.2 x4.toNatClampNeg) &&& 15) = 9)) (g69 : ((X.2 x4.toNatClampNeg) &&& 15) = 10), Ev K_X7_thrown [aR (some 26)] M31 (some (aI x172)) M32)
    (k116 : ∀ (g1 : ¬ (((Int32.ofNat X.1) - 6) < x4)) (g2 : ¬ (((X.2 x4.toNatClampNeg) &&& 15) = 0)) (g9 : ¬ (((X.2 x4.toNatClampNeg) &&& 15) = 1)) (g16 : ¬ (((X.2 x4.toNatClampNeg) &&& 15) = 2)) (g23 : ¬ (((X.2 x4.toNatClampNeg) &&& 15) = 3)) (g30 : ¬ (((X.2 x4.toNatClampNeg) &&& 15) = 4)) (g37 : ¬ (((X.2 x4.toNatClampNeg) &&& 15) = 5)) (g41 : ¬ (((X.2 x4.toNatClampNeg) &&& 15) = 6)) (g48 : ¬ (((X.2 x4.toNatClampNeg) &&& 15) = 7)) (g55 : ¬ (((X.2 x4.toNatClampNeg) &&& 15) = 8)) (g62 : ¬ (((X.2 x4.toNatClampNeg) &&& 15) = 9)) (g69 : ((X.2 x4.toNatClampNeg) &&& 15) = 10) (g73 : x172 = x170) (g74 : ¬ x170 = 0), TX X K_L_law 23 [some (aR (some 0)), some (aR (some 3)), some (aR (some 26)), some (aR (some 57)), some (aI (x4 + 6)), some (aI x170), some (aI x171), none] [] M32 fin)
    (b117 : ∀ (g1 : ¬ (((Int32.ofNat X.1) - 6) < x4)) (g2 : ¬ (((X.2 x4.toNatClampNeg) &&& 15) = 0)) (g9 : ¬ (((X.2 x4.toNatClampNeg) &&& 15) = 1)) (g16 : ¬ (((X.2 x4.toNatClampNeg) &&& 15) = 2)) (g23 : ¬ (((X.2 x4.toNatClampNeg) &&& 15) = 3)) (g30 : ¬ (((X.2 x4.toNatClampNeg) &&& 15) = 4)) (g37 : ¬ (((X.2 x4.toNatClampNeg) &&& 15) = 5)) (g41 : ¬ (((X.2 x4.toNatClampNeg) &&& 15) = 6)) (g48 : ¬ (((X.2 x4.toNatClampNeg) &&& 15) = 7)) (g55 : ¬ (((X.2 x4.toNatClampNeg) &&& 15) = 8)) (g62 : ¬ (((X.2 x4.toNatClampNeg) &&& 15) = 9)) (g69 : ((X.2 x4.toNatClampNeg) &&& 15) = 10) (g73 : x172 = x170) (g74 : x170 = 0), vp_in 0 1)
    (k118 : ∀ (g1 : ¬ (((Int32.ofNat X.1) - 6) < x4)) (g2 : ¬ (((X.2 x4.toNatClampNeg) &&& 15) = 0)) (g9 : ¬ (((X.2 x4.toNatClampNeg) &&& 15) = 1)) (g16 : ¬ (((X.2 x4.toNatClampNeg) &&& 15) = 2)) (g23 : ¬ (((X.2 x4.toNatClampNeg) &&& 15) = 3)) (g30 : ¬ (((X.2 x4.toNatClampNeg) &&& 15) = 4)) (g37 : ¬ (((X.2 x4.toNatClampNeg) &&& 15) = 5)) (g41 : ¬ (((X.2 x4.toNatClampNeg) &&& 15) = 6)) (g48 : ¬ (((X.2 x4.toNatClampNeg) &&& 15) = 7)) (g55 : ¬ (((X.2 x4.toNatClampNeg) &&& 15) = 8)) (g62 : ¬ (((X.2 x4.toNatClampNeg) &&& 15) = 9)) (g69 : ((X.2 x4.toNatClampNeg) &&& 15) = 10) (g73 : x172 = x170) (g74 : x170 = 0) (g75 : (mJ M32 57 (0 : Int32).toNatClampNeg) = ((x171 : Int32).toInt64)), TX X K_L_law 23 [some (aR (some 0)), some (aR (some 3)), some (aR (some 26)), some (aR (some 57)), some (aI (x4 + 6)), some (aI x170), some (aI x171), none] [] M32 fin)
    (k119 : ∀ (g1 : ¬ (((Int32.ofNat X.1) - 6) < x4)) (g2 : ¬ (((X.2 x4.toNatClampNeg) &&& 15) = 0)) (g9 : ¬ (((X.2 x4.toNatClampNeg) &&& 15) = 1)) (g16 : ¬ (((X.2 x4.toNatClampNeg) &&& 15) = 2)) (g23 : ¬ (((X.2 x4.toNatClampNeg) &&& 15) = 3)) (g30 : ¬ (((X.2 x4.toNatClampNeg) &&& 15) = 4)) (g37 : ¬ (((X.2 x4.toNatClampNeg) &&& 15) = 5)) (g41 : ¬ (((X.2 x4.toNatClampNeg) &&& 15) = 6)) (g48 : ¬ (((X.2 x4.toNatClampNeg) &&& 15) = 7)) (g55 : ¬ (((X.2 x4.toNatClampNeg) &&& 15) = 8)) (g62 : ¬ (((X.2 x4.toNatClampNeg) &&& 15) = 9)) (g69 : ((X.2 x4.toNatClampNeg) &&& 15) = 10) (g73 : x172 = x170) (g74 : x170 = 0) (g75 : ¬ ((mJ M32 57 (0 : Int32).toNatClampNeg) = ((x171 : Int32).toInt64))), (.inl (some (aI 0), M32) : Fin') = fin)
    (k120 : ∀ (g1 : ¬ (((Int32.ofNat X.1) - 6) < x4)) (g2 : ¬ (((X.2 x4.toNatClampNeg) &&& 15) = 0)) (g9 : ¬ (((X.2 x4.toNatClampNeg) &&& 15) = 1)) (g16 : ¬ (((X.2 x4.toNatClampNeg) &&& 15) = 2)) (g23 : ¬ (((X.2 x4.toNatClampNeg) &&& 15) = 3)) (g30 : ¬ (((X.2 x4.toNatClampNeg) &&& 15) = 4)) (g37 : ¬ (((X.2 x4.toNatClampNeg) &&& 15) = 5)) (g41 : ¬ (((X.2 x4.toNatClampNeg) &&& 15) = 6)) (g48 : ¬ (((X.2 x4.toNatClampNeg) &&& 15) = 7)) (g55 : ¬ (((X.2 x4.toNatClampNeg) &&& 15) = 8)) (g62 : ¬ (((X.2 x4.toNatClampNeg) &&& 15) = 9)) (g69 : ((X.2 x4.toNatClampNeg) &&& 15) = 10) (g73 : ¬ x172 = x170), (.inl (some (aI 0), M32) : Fin') = fin)
    (b121 : ∀ (g1 : ¬ (((Int32.ofNat X.1) - 6) < x4)) (g2 : ¬ (((X.2 x4.toNatClampNeg) &&& 15) = 0)) (g9 : ¬ (((X.2 x4.toNatClampNeg) &&& 15) = 1)) (g16 : ¬ (((X.2 x4.toNatClampNeg) &&& 15) = 2)) (g23 : ¬ (((X.2 x4.toNatClampNeg) &&& 15) = 3)) (g30 : ¬ (((X.2 x4.toNatClampNeg) &&& 15) = 4)) (g37 : ¬ (((X.2 x4.toNatClampNeg) &&& 15) = 5)) (g41 : ¬ (((X.2 x4.toNatClampNeg) &&& 15) = 6)) (g48 : ¬ (((X.2 x4.toNatClampNeg) &&& 15) = 7)) (g55 : ¬ (((X.2 x4.toNatClampNeg) &&& 15) = 8)) (g62 : ¬ (((X.2 x4.toNatClampNeg) &&& 15) = 9)) (g69 : ¬ (((X.2 x4.toNatClampNeg) &&& 15) = 10)) (g76 : ((X.2 x4.toNatClampNeg) &&& 15) = 11), vp_in (x4 + 1) X.1)
    (b122 : ∀ (g1 : ¬ (((Int32.ofNat X.1) - 6) < x4)) (g2 : ¬ (((X.2 x4.toNatClampNeg) &&& 15) = 0)) (g9 : ¬ (((X.2 x4.toNatClampNeg) &&& 15) = 1)) (g16 : ¬ (((X.2 x4.toNatClampNeg) &&& 15) = 2)) (g23 : ¬ (((X.2 x4.toNatClampNeg) &&& 15) = 3)) (g30 : ¬ (((X.2 x4.toNatClampNeg) &&& 15) = 4)) (g37 : ¬ (((X.2 x4.toNatClampNeg) &&& 15) = 5)) (g41 : ¬ (((X.2 x4.toNatClampNeg) &&& 15) = 6)) (g48 : ¬ (((X.2 x4.toNatClampNeg) &&& 15) = 7)) (g55 : ¬ (((X.2 x4.toNatClampNeg) &&& 15) = 8)) (g62 : ¬ (((X.2 x4.toNatClampNeg) &&& 15) = 9)) (g69 : ¬ (((X.2 x4.toNatClampNeg) &&& 15) = 10)) (g76 : ((X.2 x4.toNatClampNeg) &&& 15) = 11), vp_in (x4 + 2) X.1)
    (c123 : ∀ (g1 : ¬ (((Int32.ofNat X.1) - 6) < x4)) (g2 : ¬ (((X.2 x4.toNatClampNeg) &&& 15) = 0)) (g9 : ¬ (((X.2 x4.toNatClampNeg) &&& 15) = 1)) (g16 : ¬ (((X.2 x4.toNatClampNeg) &&& 15) = 2)) (g23 : ¬ (((X.2 x4.toNatClampNeg) &&& 15) = 3)) (g30 : ¬ (((X.2 x4.toNatClampNeg) &&& 15) = 4)) (g37 : ¬ (((X.2 x4.toNatClampNeg) &&& 15) = 5)) (g41 : ¬ (((X.2 x4.toNatClampNeg) &&& 15) = 6)) (g48 : ¬ (((X.2 x4.toNatClampNeg) &&& 15) = 7)) (g55 : ¬ (((X.2 x4.toNatClampNeg) &&& 15) = 8)) (g62 : ¬ (((X.2 x4.toNatClampNeg) &&& 15) = 9)) (g69 : ¬ (((X.2 x4.toNatClampNeg) &&& 15) = 10)) (g76 : ((X.2 x4.toNatClampNeg) &&& 15) = 11), Tv K_L_run [aR (some 3), aI (X.2 (x4 + 1).toNatClampNeg), aI (X.2 (x4 + 2).toNatClampNeg), aR (some 57)] M (.inl (some (aI x177), M33)))
    (h124 : ∀ (g1 : ¬ (((Int32.ofNat X.1) - 6) < x4)) (g2 : ¬ (((X.2 x4.toNatClampNeg) &&& 15) = 0)) (g9 : ¬ (((X.2 x4.toNatClampNeg) &&& 15) = 1)) (g16 : ¬ (((X.2 x4.toNatClampNeg) &&& 15) = 2)) (g23 : ¬ (((X.2 x4.toNatClampNeg) &&& 15) = 3)) (g30 : ¬ (((X.2 x4.toNatClampNeg) &&& 15) = 4)) (g37 : ¬ (((X.2 x4.toNatClampNeg) &&& 15) = 5)) (g41 : ¬ (((X.2 x4.toNatClampNeg) &&& 15) = 6)) (g48 : ¬ (((X.2 x4.toNatClampNeg) &&& 15) = 7)) (g55 : ¬ (((X.2 x4.toNatClampNeg) &&& 15) = 8)) (g62 : ¬ (((X.2 x4.toNatClampNeg) &&& 15) = 9)) (g69 : ¬ (((X.2 x4.toNatClampNeg) &&& 15) = 10)) (g76 : ((X.2 x4.toNatClampNeg) &&& 15) = 11), St M33)
    (c125 : ∀ (g1 : ¬ (((Int32.ofNat X.1) - 6) < x4)) (g2 : ¬ (((X.2 x4.toNatClampNeg) &&& 15) = 0)) (g9 : ¬ (((X.2 x4.toNatClampNeg) &&& 15) = 1)) (g16 : ¬ (((X.2 x4.toNatClampNeg) &&& 15) = 2)) (g23 : ¬ (((X.2 x4.toNatClampNeg) &&& 15) = 3)) (g30 : ¬ (((X.2 x4.toNatClampNeg) &&& 15) = 4)) (g37 : ¬ (((X.2 x4.toNatClampNeg) &&& 15) = 5)) (g41 : ¬ (((X.2 x4.toNatClampNeg) &&& 15) = 6)) (g48 : ¬ (((X.2 x4.toNatClampNeg) &&& 15) = 7)) (g55 : ¬ (((X.2 x4.toNatClampNeg) &&& 15) = 8)) (g62 : ¬ (((X.2 x4.toNatClampNeg) &&& 15) = 9)) (g69 : ¬ (((X.2 x4.toNatClampNeg) &&& 15) = 10)) (g76 : ((X.2 x4.toNatClampNeg) &&& 15) = 11), Ev K_X7_run [aR (some 26), aI (X.2 (x4 + 1).toNatClampNeg), aI (X.2 (x4 + 2).toNatClampNeg)] M33 (some (aI x178)) M34)
    (c126 : ∀ (g1 : ¬ (((Int32.ofNat X.1) - 6) < x4)) (g2 : ¬ (((X.2 x4.toNatClampNeg) &&& 15) = 0)) (g9 : ¬ (((X.2 x4.toNatClampNeg) &&& 15) = 1)) (g16 : ¬ (((X.2 x4.toNatClampNeg) &&& 15) = 2)) (g23 : ¬ (((X.2 x4.toNatClampNeg) &&& 15) = 3)) (g30 : ¬ (((X.2 x4.toNatClampNeg) &&& 15) = 4)) (g37 : ¬ (((X.2 x4.toNatClampNeg) &&& 15) = 5)) (g41 : ¬ (((X.2 x4.toNatClampNeg) &&& 15) = 6)) (g48 : ¬ (((X.2 x4.toNatClampNeg) &&& 15) = 7)) (g55 : ¬ (((X.2 x4.toNatClampNeg) &&& 15) = 8)) (g62 : ¬ (((X.2 x4.toNatClampNeg) &&& 15) = 9)) (g69 : ¬ (((X.2 x4.toNatClampNeg) &&& 15) = 10)) (g76 : ((X.2 x4.toNatClampNeg) &&& 15) = 11), Ev K_X7_thrown [aR (some 26)] M34 (some (aI x179)) M35)
    (k127 : ∀ (g1 : ¬ (((Int32.ofNat X.1) - 6) < x4)) (g2 : ¬ (((X.2 x4.toNatClampNeg) &&& 15) = 0)) (g9 : ¬ (((X.2 x4.toNatClampNeg) &&& 15) = 1)) (g16 : ¬ (((X.2 x4.toNatClampNeg) &&& 15) = 2)) (g23 : ¬ (((X.2 x4.toNatClampNeg) &&& 15) = 3)) (g30 : ¬ (((X.2 x4.toNatClampNeg) &&& 15) = 4)) (g37 : ¬ (((X.2 x4.toNatClampNeg) &&& 15) = 5)) (g41 : ¬ (((X.2 x4.toNatClampNeg) &&& 15) = 6)) (g48 : ¬ (((X.2 x4.toNatClampNeg) &&& 15) = 7)) (g55 : ¬ (((X.2 x4.toNatClampNeg) &&& 15) = 8)) (g62 : ¬ (((X.2 x4.toNatClampNeg) &&& 15) = 9)) (g69 : ¬ (((X.2 x4.toNatClampNeg) &&& 15) = 10)) (g76 : ((X.2 x4.toNatClampNeg) &&& 15) = 11) (g80 : x179 = x177) (g81 : ¬ x177 = 0), TX X K_L_law 23 [some (aR (some 0)), some (aR (some 3)), some (aR (some 26)), some (aR (some 57)), some (aI (x4 + 6)), some (aI x177), some (aI x178), none] [] M35 fin)
    (b128 : ∀ (g1 : ¬ (((Int32.ofNat X.1) - 6) < x4)) (g2 : ¬ (((X.2 x4.toNatClampNeg) &&& 15) = 0)) (g9 : ¬ (((X.2 x4.toNatClampNeg) &&& 15) = 1)) (g16 : ¬ (((X.2 x4.toNatClampNeg) &&& 15) = 2)) (g23 : ¬ (((X.2 x4.toNatClampNeg) &&& 15) = 3)) (g30 : ¬ (((X.2 x4.toNatClampNeg) &&& 15) = 4)) (g37 : ¬ (((X.2 x4.toNatClampNeg) &&& 15) = 5)) (g41 : ¬ (((X.2 x4.toNatClampNeg) &&& 15) = 6)) (g48 : ¬ (((X.2 x4.toNatClampNeg) &&& 15) = 7)) (g55 : ¬ (((X.2 x4.toNatClampNeg) &&& 15) = 8)) (g62 : ¬ (((X.2 x4.toNatClampNeg) &&& 15) = 9)) (g69 : ¬ (((X.2 x4.toNatClampNeg) &&& 15) = 10)) (g76 : ((X.2 x4.toNatClampNeg) &&& 15) = 11) (g80 : x179 = x177) (g81 : x177 = 0), vp_in 0 1)
    (k129 : ∀ (g1 : ¬ (((Int32.ofNat X.1) - 6) < x4)) (g2 : ¬ (((X.2 x4.toNatClampNeg) &&& 15) = 0)) (g9 : ¬ (((X.2 x4.toNatClampNeg) &&& 15) = 1)) (g16 : ¬ (((X.2 x4.toNatClampNeg) &&& 15) = 2)) (g23 : ¬ (((X.2 x4.toNatClampNeg) &&& 15) = 3)) (g30 : ¬ (((X.2 x4.toNatClampNeg) &&& 15) = 4)) (g37 : ¬ (((X.2 x4.toNatClampNeg) &&& 15) = 5)) (g41 : ¬ (((X.2 x4.toNatClampNeg) &&& 15) = 6)) (g48 : ¬ (((X.2 x4.toNatClampNeg) &&& 15) = 7)) (g55 : ¬ (((X.2 x4.toNatClampNeg) &&& 15) = 8)) (g62 : ¬ (((X.2 x4.toNatClampNeg) &&& 15) = 9)) (g69 : ¬ (((X.2 x4.toNatClampNeg) &&& 15) = 10)) (g76 : ((X.2 x4.toNatClampNeg) &&& 15) = 11) (g80 : x179 = x177) (g81 : x177 = 0) (g82 : (mJ M35 57 (0 : Int32).toNatClampNeg) = ((x178 : Int32).toInt64)), TX X K_L_law 23 [some (aR (some 0)), some (aR (some 3)), some (aR (some 26)), some (aR (some 57)), some (aI (x4 + 6)), some (aI x177), some (aI x178), none] [] M35 fin)
    (k130 : ∀ (g1 : ¬ (((Int32.ofNat X.1) - 6) < x4)) (g2 : ¬ (((X.2 x4.toNatClampNeg) &&& 15) = 0)) (g9 : ¬ (((X.2 x4.toNatClampNeg) &&& 15) = 1)) (g16 : ¬ (((X.2 x4.toNatClampNeg) &&& 15) = 2)) (g23 : ¬ (((X.2 x4.toNatClampNeg) &&& 15) = 3)) (g30 : ¬ (((X.2 x4.toNatClampNeg) &&& 15) = 4)) (g37 : ¬ (((X.2 x4.toNatClampNeg) &&& 15) = 5)) (g41 : ¬ (((X.2 x4.toNatClampNeg) &&& 15) = 6)) (g48 : ¬ (((X.2 x4.toNatClampNeg) &&& 15) = 7)) (g55 : ¬ (((X.2 x4.toNatClampNeg) &&& 15) = 8)) (g62 : ¬ (((X.2 x4.toNatClampNeg) &&& 15) = 9)) (g69 : ¬ (((X.2 x4.toNatClampNeg) &&& 15) = 10)) (g76 : ((X.2 x4.toNatClampNeg) &&& 15) = 11) (g80 : x179 = x177) (g81 : x177 = 0) (g82 : ¬ ((mJ M35 57 (0 : Int32).toNatClampNeg) = ((x178 : Int32).toInt64))), (.inl (some (aI 0), M35) : Fin') = fin)
    (k131 : ∀ (g1 : ¬ (((Int32.ofNat X.1) - 6) < x4)) (g2 : ¬ (((X.2 x4.toNatClampNeg) &&& 15) = 0)) (g9 : ¬ (((X.2 x4.toNatClampNeg) &&& 15) = 1)) (g16 : ¬ (((X.2 x4.toNatClampNeg) &&& 15) = 2)) (g23 : ¬ (((X.2 x4.toNatClampNeg) &&& 15) = 3)) (g30 : ¬ (((X.2 x4.toNatClampNeg) &&& 15) = 4)) (g37 : ¬ (((X.2 x4.toNatClampNeg) &&& 15) = 5)) (g41 : ¬ (((X.2 x4.toNatClampNeg) &&& 15) = 6)) (g48 : ¬ (((X.2 x4.toNatClampNeg) &&& 15) = 7)) (g55 : ¬ (((X.2 x4.toNatClampNeg) &&& 15) = 8)) (g62 : ¬ (((X.2 x4.toNatClampNeg) &&& 15) = 9)) (g69 : ¬ (((X.2 x4.toNatClampNeg) &&& 15) = 10)) (g76 : ((X.2 x4.toNatClampNeg) &&& 15) = 11) (g80 : ¬ x179 = x177), (.inl (some (aI 0), M35) : Fin') = fin)
    (b132 : ∀ (g1 : ¬ (((Int32.ofNat X.1) - 6) < x4)) (g2 : ¬ (((X.2 x4.toNatClampNeg) &&& 15) = 0)) (g9 : ¬ (((X.2 x4.toNatClampNeg) &&& 15) = 1)) (g16 : ¬ (((X.2 x4.toNatClampNeg) &&& 15) = 2)) (g23 : ¬ (((X.2 x4.toNatClampNeg) &&& 15) = 3)) (g30 : ¬ (((X.2 x4.toNatClampNeg) &&& 15) = 4)) (g37 : ¬ (((X.2 x4.toNatClampNeg) &&& 15) = 5)) (g41 : ¬ (((X.2 x4.toNatClampNeg) &&& 15) = 6)) (g48 : ¬ (((X.2 x4.toNatClampNeg) &&& 15) = 7)) (g55 : ¬ (((X.2 x4.toNatClampNeg) &&& 15) = 8)) (g62 : ¬ (((X.2 x4.toNatClampNeg) &&& 15) = 9)) (g69 : ¬ (((X.2 x4.toNatClampNeg) &&& 15) = 10)) (g76 : ¬ (((X.2 x4.toNatClampNeg) &&& 15) = 11)) (g83 : ((X.2 x4.toNatClampNeg) &&& 15) = 12), vp_in (x4 + 1) X.1)
    (c133 : ∀ (g1 : ¬ (((Int32.ofNat X.1) - 6) < x4)) (g2 : ¬ (((X.2 x4.toNatClampNeg) &&& 15) = 0)) (g9 : ¬ (((X.2 x4.toNatClampNeg) &&& 15) = 1)) (g16 : ¬ (((X.2 x4.toNatClampNeg) &&& 15) = 2)) (g23 : ¬ (((X.2 x4.toNatClampNeg) &&& 15) = 3)) (g30 : ¬ (((X.2 x4.toNatClampNeg) &&& 15) = 4)) (g37 : ¬ (((X.2 x4.toNatClampNeg) &&& 15) = 5)) (g41 : ¬ (((X.2 x4.toNatClampNeg) &&& 15) = 6)) (g48 : ¬ (((X.2 x4.toNatClampNeg) &&& 15) = 7)) (g55 : ¬ (((X.2 x4.toNatClampNeg) &&& 15) = 8)) (g62 : ¬ (((X.2 x4.toNatClampNeg) &&& 15) = 9)) (g69 : ¬ (((X.2 x4.toNatClampNeg) &&& 15) = 10)) (g76 : ¬ (((X.2 x4.toNatClampNeg) &&& 15) = 11)) (g83 : ((X.2 x4.toNatClampNeg) &&& 15) = 12), Tv K_L_ran [aR (some 3), aI (X.2 (x4 + 1).toNatClampNeg), aR (some 57)] M (.inl (some (aI x184), M36)))
    (h134 : ∀ (g1 : ¬ (((Int32.ofNat X.1) - 6) < x4)) (g2 : ¬ (((X.2 x4.toNatClampNeg) &&& 15) = 0)) (g9 : ¬ (((X.2 x4.toNatClampNeg) &&& 15) = 1)) (g16 : ¬ (((X.2 x4.toNatClampNeg) &&& 15) = 2)) (g23 : ¬ (((X.2 x4.toNatClampNeg) &&& 15) = 3)) (g30 : ¬ (((X.2 x4.toNatClampNeg) &&& 15) = 4)) (g37 : ¬ (((X.2 x4.toNatClampNeg) &&& 15) = 5)) (g41 : ¬ (((X.2 x4.toNatClampNeg) &&& 15) = 6)) (g48 : ¬ (((X.2 x4.toNatClampNeg) &&& 15) = 7)) (g55 : ¬ (((X.2 x4.toNatClampNeg) &&& 15) = 8)) (g62 : ¬ (((X.2 x4.toNatClampNeg) &&& 15) = 9)) (g69 : ¬ (((X.2 x4.toNatClampNeg) &&& 15) = 10)) (g76 : ¬ (((X.2 x4.toNatClampNeg) &&& 15) = 11)) (g83 : ((X.2 x4.toNatClampNeg) &&& 15) = 12), St M36)
    (c135 : ∀ (g1 : ¬ (((Int32.ofNat X.1) - 6) < x4)) (g2 : ¬ (((X.2 x4.toNatClampNeg) &&& 15) = 0)) (g9 : ¬ (((X.2 x4.toNatClampNeg) &&& 15) = 1)) (g16 : ¬ (((X.2 x4.toNatClampNeg) &&& 15) = 2)) (g23 : ¬ (((X.2 x4.toNatClampNeg) &&& 15) = 3)) (g30 : ¬ (((X.2 x4.toNatClampNeg) &&& 15) = 4)) (g37 : ¬ (((X.2 x4.toNatClampNeg) &&& 15) = 5)) (g41 : ¬ (((X.2 x4.toNatClampNeg) &&& 15) = 6)) (g48 : ¬ (((X.2 x4.toNatClampNeg) &&& 15) = 7)) (g55 : ¬ (((X.2 x4.toNatClampNeg) &&& 15) = 8)) (g62 : ¬ (((X.2 x4.toNatClampNeg) &&& 15) = 9)) (g69 : ¬ (((X.2 x4.toNatClampNeg) &&& 15) = 10)) (g76 : ¬ (((X.2 x4.toNatClampNeg) &&& 15) = 11)) (g83 : ((X.2 x4.toNatClampNeg) &&& 15) = 12), Ev K_X7_ran [aR (some 26), aI (X.2 (x4 + 1).toNatClampNeg)] M36 (some (aJ x185)) M37)
    (c136 : ∀ (g1 : ¬ (((Int32.ofNat X.1) - 6) < x4)) (g2 : ¬ (((X.2 x4.toNatClampNeg) &&& 15) = 0)) (g9 : ¬ (((X.2 x4.toNatClampNeg) &&& 15) = 1)) (g16 : ¬ (((X.2 x4.toNatClampNeg) &&& 15) = 2)) (g23 : ¬ (((X.2 x4.toNatClampNeg) &&& 15) = 3)) (g30 : ¬ (((X.2 x4.toNatClampNeg) &&& 15) = 4)) (g37 : ¬ (((X.2 x4.toNatClampNeg) &&& 15) = 5)) (g41 : ¬ (((X.2 x4.toNatClampNeg) &&& 15) = 6)) (g48 : ¬ (((X.2 x4.toNatClampNeg) &&& 15) = 7)) (g55 : ¬ (((X.2 x4.toNatClampNeg) &&& 15) = 8)) (g62 : ¬ (((X.2 x4.toNatClampNeg) &&& 15) = 9)) (g69 : ¬ (((X.2 x4.toNatClampNeg) &&& 15) = 10)) (g76 : ¬ (((X.2 x4.toNatClampNeg) &&& 15) = 11)) (g83 : ((X.2 x4.toNatClampNeg) &&& 15) = 12), Ev K_X7_thrown [aR (some 26)] M37 (some (aI x186)) M38)
    (k137 : ∀ (g1 : ¬ (((Int32.ofNat X.1) - 6) < x4)) (g2 : ¬ (((X.2 x4.toNatClampNeg) &&& 15) = 0)) (g9 : ¬ (((X.2 x4.toNatClampNeg) &&& 15) = 1)) (g16 : ¬ (((X.2 x4.toNatClampNeg) &&& 15) = 2)) (g23 : ¬ (((X.2 x4.toNatClampNeg) &&& 15) = 3)) (g30 : ¬ (((X.2 x4.toNatClampNeg) &&& 15) = 4)) (g37 : ¬ (((X.2 x4.toNatClampNeg) &&& 15) = 5)) (g41 : ¬ (((X.2 x4.toNatClampNeg) &&& 15) = 6)) (g48 : ¬ (((X.2 x4.toNatClampNeg) &&& 15) = 7)) (g55 : ¬ (((X.2 x4.toNatClampNeg) &&& 15) = 8)) (g62 : ¬ (((X.2 x4.toNatClampNeg) &&& 15) = 9)) (g69 : ¬ (((X.2 x4.toNatClampNeg) &&& 15) = 10)) (g76 : ¬ (((X.2 x4.toNatClampNeg) &&& 15) = 11)) (g83 : ((X.2 x4.toNatClampNeg) &&& 15) = 12) (g87 : x186 = x184) (g88 : ¬ x184 = 0), TX X K_L_law 23 [some (aR (some 0)), some (aR (some 3)), some (aR (some 26)), some (aR (some 57)), some (aI (x4 + 6)), some (aI x184), some (aJ x185), none] [] M38 fin)
    (b138 : ∀ (g1 : ¬ (((Int32.ofNat X.1) - 6) < x4)) (g2 : ¬ (((X.2 x4.toNatClampNeg) &&& 15) = 0)) (g9 : ¬ (((X.2 x4.toNatClampNeg) &&& 15) = 1)) (g16 : ¬ (((X.2 x4.toNatClampNeg) &&& 15) = 2)) (g23 : ¬ (((X.2 x4.toNatClampNeg) &&& 15) = 3)) (g30 : ¬ (((X.2 x4.toNatClampNeg) &&& 15) = 4)) (g37 : ¬ (((X.2 x4.toNatClampNeg) &&& 15) = 5)) (g41 : ¬ (((X.2 x4.toNatClampNeg) &&& 15) = 6)) (g48 : ¬ (((X.2 x4.toNatClampNeg) &&& 15) = 7)) (g55 : ¬ (((X.2 x4.toNatClampNeg) &&& 15) = 8)) (g62 : ¬ (((X.2 x4.toNatClampNeg) &&& 15) = 9)) (g69 : ¬ (((X.2 x4.toNatClampNeg) &&& 15) = 10)) (g76 : ¬ (((X.2 x4.toNatClampNeg) &&& 15) = 11)) (g83 : ((X.2 x4.toNatClampNeg) &&& 15) = 12) (g87 : x186 = x184) (g88 : x184 = 0), vp_in 0 1)
    (k139 : ∀ (g1 : ¬ (((Int32.ofNat X.1) - 6) < x4)) (g2 : ¬ (((X.2 x4.toNatClampNeg) &&& 15) = 0)) (g9 : ¬ (((X.2 x4.toNatClampNeg) &&& 15) = 1)) (g16 : ¬ (((X.2 x4.toNatClampNeg) &&& 15) = 2)) (g23 : ¬ (((X.2 x4.toNatClampNeg) &&& 15) = 3)) (g30 : ¬ (((X.2 x4.toNatClampNeg) &&& 15) = 4)) (g37 : ¬ (((X.2 x4.toNatClampNeg) &&& 15) = 5)) (g41 : ¬ (((X.2 x4.toNatClampNeg) &&& 15) = 6)) (g48 : ¬ (((X.2 x4.toNatClampNeg) &&& 15) = 7)) (g55 : ¬ (((X.2 x4.toNatClampNeg) &&& 15) = 8)) (g62 : ¬ (((X.2 x4.toNatClampNeg) &&& 15) = 9)) (g69 : ¬ (((X.2 x4.toNatClampNeg) &&& 15) = 10)) (g76 : ¬ (((X.2 x4.toNatClampNeg) &&& 15) = 11)) (g83 : ((X.2 x4.toNatClampNeg) &&& 15) = 12) (g87 : x186 = x184) (g88 : x184 = 0) (g89 : (mJ M38 57 (0 : Int32).toNatClampNeg) = x185), TX X K_L_law 23 [some (aR (some 0)), some (aR (some 3)), some (aR (some 26)), some (aR (some 57)), some (aI (x4 + 6)), some (aI x184), some (aJ x185), none] [] M38 fin)
    (k140 : ∀ (g1 : ¬ (((Int32.ofNat X.1) - 6) < x4)) (g2 : ¬ (((X.2 x4.toNatClampNeg) &&& 15) = 0)) (g9 : ¬ (((X.2 x4.toNatClampNeg) &&& 15) = 1)) (g16 : ¬ (((X.2 x4.toNatClampNeg) &&& 15) = 2)) (g23 : ¬ (((X.2 x4.toNatClampNeg) &&& 15) = 3)) (g30 : ¬ (((X.2 x4.toNatClampNeg) &&& 15) = 4)) (g37 : ¬ (((X.2 x4.toNatClampNeg) &&& 15) = 5)) (g41 : ¬ (((X.2 x4.toNatClampNeg) &&& 15) = 6)) (g48 : ¬ (((X.2 x4.toNatClampNeg) &&& 15) = 7)) (g55 : ¬ (((X.2 x4.toNatClampNeg) &&& 15) = 8)) (g62 : ¬ (((X.2 x4.toNatClampNeg) &&& 15) = 9)) (g69 : ¬ (((X.2 x4.toNatClampNeg) &&& 15) = 10)) (g76 : ¬ (((X.2 x4.toNatClampNeg) &&& 15) = 11)) (g83 : ((X.2 x4.toNatClampNeg) &&& 15) = 12) (g87 : x186 = x184) (g88 : x184 = 0) (g89 : ¬ ((mJ M38 57 (0 : Int32).toNatClampNeg) = x185)), (.inl (some (aI 0), M38) : Fin') = fin)
    (k141 : ∀ (g1 : ¬ (((Int32.ofNat X.1) - 6) < x4)) (g2 : ¬ (((X.2 x4.toNatClampNeg) &&& 15) = 0)) (g9 : ¬ (((X.2 x4.toNatClampNeg) &&& 15) = 1)) (g16 : ¬ (((X.2 x4.toNatClampNeg) &&& 15) = 2)) (g23 : ¬ (((X.2 x4.toNatClampNeg) &&& 15) = 3)) (g30 : ¬ (((X.2 x4.toNatClampNeg) &&& 15) = 4)) (g37 : ¬ (((X.2 x4.toNatClampNeg) &&& 15) = 5)) (g41 : ¬ (((X.2 x4.toNatClampNeg) &&& 15) = 6)) (g48 : ¬ (((X.2 x4.toNatClampNeg) &&& 15) = 7)) (g55 : ¬ (((X.2 x4.toNatClampNeg) &&& 15) = 8)) (g62 : ¬ (((X.2 x4.toNatClampNeg) &&& 15) = 9)) (g69 : ¬ (((X.2 x4.toNatClampNeg) &&& 15) = 10)) (g76 : ¬ (((X.2 x4.toNatClampNeg) &&& 15) = 11)) (g83 : ((X.2 x4.toNatClampNeg) &&& 15) = 12) (g87 : ¬ x186 = x184), (.inl (some (aI 0), M38) : Fin') = fin)
    (b142 : ∀ (g1 : ¬ (((Int32.ofNat X.1) - 6) < x4)) (g2 : ¬ (((X.2 x4.toNatClampNeg) &&& 15) = 0)) (g9 : ¬ (((X.2 x4.toNatClampNeg) &&& 15) = 1)) (g16 : ¬ (((X.2 x4.toNatClampNeg) &&& 15) = 2)) (g23 : ¬ (((X.2 x4.toNatClampNeg) &&& 15) = 3)) (g30 : ¬ (((X.2 x4.toNatClampNeg) &&& 15) = 4)) (g37 : ¬ (((X.2 x4.toNatClampNeg) &&& 15) = 5)) (g41 : ¬ (((X.2 x4.toNatClampNeg) &&& 15) = 6)) (g48 : ¬ (((X.2 x4.toNatClampNeg) &&& 15) = 7)) (g55 : ¬ (((X.2 x4.toNatClampNeg) &&& 15) = 8)) (g62 : ¬ (((X.2 x4.toNatClampNeg) &&& 15) = 9)) (g69 : ¬ (((X.2 x4.toNatClampNeg) &&& 15) = 10)) (g76 : ¬ (((X.2 x4.toNatClampNeg) &&& 15) = 11)) (g83 : ¬ (((X.2 x4.toNatClampNeg) &&& 15) = 12)) (g90 : ((X.2 x4.toNatClampNeg) &&& 15) = 13), vp_in (x4 + 1) X.1)
    (b143 : ∀ (g1 : ¬ (((Int32.ofNat X.1) - 6) < x4)) (g2 : ¬ (((X.2 x4.toNatClampNeg) &&& 15) = 0)) (g9 : ¬ (((X.2 x4.toNatClampNeg) &&& 15) = 1)) (g16 : ¬ (((X.2 x4.toNatClampNeg) &&& 15) = 2)) (g23 : ¬ (((X.2 x4.toNatClampNeg) &&& 15) = 3)) (g30 : ¬ (((X.2 x4.toNatClampNeg) &&& 15) = 4)) (g37 : ¬ (((X.2 x4.toNatClampNeg) &&& 15) = 5)) (g41 : ¬ (((X.2 x4.toNatClampNeg) &&& 15) = 6)) (g48 : ¬ (((X.2 x4.toNatClampNeg) &&& 15) = 7)) (g55 : ¬ (((X.2 x4.toNatClampNeg) &&& 15) = 8)) (g62 : ¬ (((X.2 x4.toNatClampNeg) &&& 15) = 9)) (g69 : ¬ (((X.2 x4.toNatClampNeg) &&& 15) = 10)) (g76 : ¬ (((X.2 x4.toNatClampNeg) &&& 15) = 11)) (g83 : ¬ (((X.2 x4.toNatClampNeg) &&& 15) = 12)) (g90 : ((X.2 x4.toNatClampNeg) &&& 15) = 13), vp_in (x4 + 2) X.1)
    (c144 : ∀ (g1 : ¬ (((Int32.ofNat X.1) - 6) < x4)) (g2 : ¬ (((X.2 x4.toNatClampNeg) &&& 15) = 0)) (g9 : ¬ (((X.2 x4.toNatClampNeg) &&& 15) = 1)) (g16 : ¬ (((X.2 x4.toNatClampNeg) &&& 15) = 2)) (g23 : ¬ (((X.2 x4.toNatClampNeg) &&& 15) = 3)) (g30 : ¬ (((X.2 x4.toNatClampNeg) &&& 15) = 4)) (g37 : ¬ (((X.2 x4.toNatClampNeg) &&& 15) = 5)) (g41 : ¬ (((X.2 x4.toNatClampNeg) &&& 15) = 6)) (g48 : ¬ (((X.2 x4.toNatClampNeg) &&& 15) = 7)) (g55 : ¬ (((X.2 x4.toNatClampNeg) &&& 15) = 8)) (g62 : ¬ (((X.2 x4.toNatClampNeg) &&& 15) = 9)) (g69 : ¬ (((X.2 x4.toNatClampNeg) &&& 15) = 10)) (g76 : ¬ (((X.2 x4.toNatClampNeg) &&& 15) = 11)) (g83 : ¬ (((X.2 x4.toNatClampNeg) &&& 15) = 12)) (g90 : ((X.2 x4.toNatClampNeg) &&& 15) = 13), Tv K_L_about [aR (some 3), aI (X.2 (x4 + 1).toNatClampNeg), aI (X.2 (x4 + 2).toNatClampNeg), aR (some 57)] M (.inl (some (aI x191), M39)))
    (h145 : ∀ (g1 : ¬ (((Int32.ofNat X.1) - 6) < x4)) (g2 : ¬ (((X.2 x4.toNatClampNeg) &&& 15) = 0)) (g9 : ¬ (((X.2 x4.toNatClampNeg) &&& 15) = 1)) (g16 : ¬ (((X.2 x4.toNatClampNeg) &&& 15) = 2)) (g23 : ¬ (((X.2 x4.toNatClampNeg) &&& 15) = 3)) (g30 : ¬ (((X.2 x4.toNatClampNeg) &&& 15) = 4)) (g37 : ¬ (((X.2 x4.toNatClampNeg) &&& 15) = 5)) (g41 : ¬ (((X.2 x4.toNatClampNeg) &&& 15) = 6)) (g48 : ¬ (((X.2 x4.toNatClampNeg) &&& 15) = 7)) (g55 : ¬ (((X.2 x4.toNatClampNeg) &&& 15) = 8)) (g62 : ¬ (((X.2 x4.toNatClampNeg) &&& 15) = 9)) (g69 : ¬ (((X.2 x4.toNatClampNeg) &&& 15) = 10)) (g76 : ¬ (((X.2 x4.toNatClampNeg) &&& 15) = 11)) (g83 : ¬ (((X.2 x4.toNatClampNeg) &&& 15) = 12)) (g90 : ((X.2 x4.toNatClampNeg) &&& 15) = 13), St M39)
    (c146 : ∀ (g1 : ¬ (((Int32.ofNat X.1) - 6) < x4)) (g2 : ¬ (((X.2 x4.toNatClampNeg) &&& 15) = 0)) (g9 : ¬ (((X.2 x4.toNatClampNeg) &&& 15) = 1)) (g16 : ¬ (((X.2 x4.toNatClampNeg) &&& 15) = 2)) (g23 : ¬ (((X.2 x4.toNatClampNeg) &&& 15) = 3)) (g30 : ¬ (((X.2 x4.toNatClampNeg) &&& 15) = 4)) (g37 : ¬ (((X.2 x4.toNatClampNeg) &&& 15) = 5)) (g41 : ¬ (((X.2 x4.toNatClampNeg) &&& 15) = 6)) (g48 : ¬ (((X.2 x4.toNatClampNeg) &&& 15) = 7)) (g55 : ¬ (((X.2 x4.toNatClampNeg) &&& 15) = 8)) (g62 : ¬ (((X.2 x4.toNatClampNeg) &&& 15) = 9)) (g69 : ¬ (((X.2 x4.toNatClampNeg) &&& 15) = 10)) (g76 : ¬ (((X.2 x4.toNatClampNeg) &&& 15) = 11)) (g83 : ¬ (((X.2 x4.toNatClampNeg) &&& 15) = 12)) (g90 : ((X.2 x4.toNatClampNeg) &&& 15) = 13), Ev K_X7_about [aR (some 26), aI (X.2 (x4 + 1).toNatClampNeg), aI (X.2 (x4 + 2).toNatClampNeg)] M39 (some (aI x192)) M40)
    (c147 : ∀ (g1 : ¬ (((Int32.ofNat X.1) - 6) < x4)) (g2 : ¬ (((X.2 x4.toNatClampNeg) &&& 15) = 0)) (g9 : ¬ (((X.2 x4.toNatClampNeg) &&& 15) = 1)) (g16 : ¬ (((X.2 x4.toNatClampNeg) &&& 15) = 2)) (g23 : ¬ (((X.2 x4.toNatClampNeg) &&& 15) = 3)) (g30 : ¬ (((X.2 x4.toNatClampNeg) &&& 15) = 4)) (g37 : ¬ (((X.2 x4.toNatClampNeg) &&& 15) = 5)) (g41 : ¬ (((X.2 x4.toNatClampNeg) &&& 15) = 6)) (g48 : ¬ (((X.2 x4.toNatClampNeg) &&& 15) = 7)) (g55 : ¬ (((X.2 x4.toNatClampNeg) &&& 15) = 8)) (g62 : ¬ (((X.2 x4.toNatClampNeg) &&& 15) = 9)) (g69 : ¬ (((X.2 x4.toNatClampNeg) &&& 15) = 10)) (g76 : ¬ (((X.2 x4.toNatClampNeg) &&& 15) = 11)) (g83 : ¬ (((X.2 x4.toNatClampNeg) &&& 15) = 12)) (g90 : ((X.2 x4.toNatClampNeg) &&& 15) = 13), Ev K_X7_thrown [aR (some 26)] M40 (some (aI x193)) M41)
    (k148 : ∀ (g1 : ¬ (((Int32.ofNat X.1) - 6) < x4)) (g2 : ¬ (((X.2 x4.toNatClampNeg) &&& 15) = 0)) (g9 : ¬ (((X.2 x4.toNatClampNeg) &&& 15) = 1)) (g16 : ¬ (((X.2 x4.toNatClampNeg) &&& 15) = 2)) (g23 : ¬ (((X.2 x4.toNatClampNeg) &&& 15) = 3)) (g30 : ¬ (((X.2 x4.toNatClampNeg) &&& 15) = 4)) (g37 : ¬ (((X.2 x4.toNatClampNeg) &&& 15) = 5)) (g41 : ¬ (((X.2 x4.toNatClampNeg) &&& 15) = 6)) (g48 : ¬ (((X.2 x4.toNatClampNeg) &&& 15) = 7)) (g55 : ¬ (((X.2 x4.toNatClampNeg) &&& 15) = 8)) (g62 : ¬ (((X.2 x4.toNatClampNeg) &&& 15) = 9)) (g69 : ¬ (((X.2 x4.toNatClampNeg) &&& 15) = 10)) (g76 : ¬ (((X.2 x4.toNatClampNeg) &&& 15) = 11)) (g83 : ¬ (((X.2 x4.toNatClampNeg) &&& 15) = 12)) (g90 : ((X.2 x4.toNatClampNeg) &&& 15) = 13) (g94 : x193 = x191) (g95 : ¬ x191 = 0), TX X K_L_law 23 [some (aR (some 0)), some (aR (some 3)), some (aR (some 26)), some (aR (some 57)), some (aI (x4 + 6)), some (aI x191), some (aI x192), none] [] M41 fin)
    (b149 : ∀ (g1 : ¬ (((Int32.ofNat X.1) - 6) < x4)) (g2 : ¬ (((X.2 x4.toNatClampNeg) &&& 15) = 0)) (g9 : ¬ (((X.2 x4.toNatClampNeg) &&& 15) = 1)) (g16 : ¬ (((X.2 x4.toNatClampNeg) &&& 15) = 2)) (g23 : ¬ (((X.2 x4.toNatClampNeg) &&& 15) = 3)) (g30 : ¬ (((X.2 x4.toNatClampNeg) &&& 15) = 4)) (g37 : ¬ (((X.2 x4.toNatClampNeg) &&& 15) = 5)) (g41 : ¬ (((X.2 x4.toNatClampNeg) &&& 15) = 6)) (g48 : ¬ (((X.2 x4.toNatClampNeg) &&& 15) = 7)) (g55 : ¬ (((X.2 x4.toNatClampNeg) &&& 15) = 8)) (g62 : ¬ (((X.2 x4.toNatClampNeg) &&& 15) = 9)) (g69 : ¬ (((X.2 x4.toNatClampNeg) &&& 15) = 10)) (g76 : ¬ (((X.2 x4.toNatClampNeg) &&& 15) = 11)) (g83 : ¬ (((X.2 x4.toNatClampNeg) &&& 15) = 12)) (g90 : ((X.2 x4.toNatClampNeg) &&& 15) = 13) (g94 : x193 = x191) (g95 : x191 = 0), vp_in 0 1)
    (k150 : ∀ (g1 : ¬ (((Int32.ofNat X.1) - 6) < x4)) (g2 : ¬ (((X.2 x4.toNatClampNeg) &&& 15) = 0)) (g9 : ¬ (((X.2 x4.toNatClampNeg) &&& 15) = 1)) (g16 : ¬ (((X.2 x4.toNatClampNeg) &&& 15) = 2)) (g23 : ¬ (((X.2 x4.toNatClampNeg) &&& 15) = 3)) (g30 : ¬ (((X.2 x4.toNatClampNeg) &&& 15) = 4)) (g37 : ¬ (((X.2 x4.toNatClampNeg) &&& 15) = 5)) (g41 : ¬ (((X.2 x4.toNatClampNeg) &&& 15) = 6)) (g48 : ¬ (((X.2 x4.toNatClampNeg) &&& 15) = 7)) (g55 : ¬ (((X.2 x4.toNatClampNeg) &&& 15) = 8)) (g62 : ¬ (((X.2 x4.toNatClampNeg) &&& 15) = 9)) (g69 : ¬ (((X.2 x4.toNatClampNeg) &&& 15) = 10)) (g76 : ¬ (((X.2 x4.toNatClampNeg) &&& 15) = 11)) (g83 : ¬ (((X.2 x4.toNatClampNeg) &&& 15) = 12)) (g90 : ((X.2 x4.toNatClampNeg) &&& 15) = 13) (g94 : x193 = x191) (g95 : x191 = 0) (g96 : (mJ M41 57 (0 : Int32).toNatClampNeg) = ((x192 : Int32).toInt64)), TX X K_L_law 23 [some (aR (some 0)), some (aR (some 3)), some (aR (some 26)), some (aR (some 57)), some (aI (x4 + 6)), some (aI x191), some (aI x192), none] [] M41 fin)
    (k151 : ∀ (g1 : ¬ (((Int32.ofNat X.1) - 6) < x4)) (g2 : ¬ (((X.2 x4.toNatClampNeg) &&& 15) = 0)) (g9 : ¬ (((X.2 x4.toNatClampNeg) &&& 15) = 1)) (g16 : ¬ (((X.2 x4.toNatClampNeg) &&& 15) = 2)) (g23 : ¬ (((X.2 x4.toNatClampNeg) &&& 15) = 3)) (g30 : ¬ (((X.2 x4.toNatClampNeg) &&& 15) = 4)) (g37 : ¬ (((X.2 x4.toNatClampNeg) &&& 15) = 5)) (g41 : ¬ (((X.2 x4.toNatClampNeg) &&& 15) = 6)) (g48 : ¬ (((X.2 x4.toNatClampNeg) &&& 15) = 7)) (g55 : ¬ (((X.2 x4.toNatClampNeg) &&& 15) = 8)) (g62 : ¬ (((X.2 x4.toNatClampNeg) &&& 15) = 9)) (g69 : ¬ (((X.2 x4.toNatClampNeg) &&& 15) = 10)) (g76 : ¬ (((X.2 x4.toNatClampNeg) &&& 15) = 11)) (g83 : ¬ (((X.2 x4.toNatClampNeg) &&& 15) = 12)) (g90 : ((X.2 x4.toNatClampNeg) &&& 15) = 13) (g94 : x193 = x191) (g95 : x191 = 0) (g96 : ¬ ((mJ M41 57 (0 : Int32).toNatClampNeg) = ((x192 : Int32).toInt64))), (.inl (some (aI 0), M41) : Fin') = fin)
    (k152 : ∀ (g1 : ¬ (((Int32.ofNat X.1) - 6) < x4)) (g2 : ¬ (((X.2 x4.toNatClampNeg) &&& 15) = 0)) (g9 : ¬ (((X.2 x4.toNatClampNeg) &&& 15) = 1)) (g16 : ¬ (((X.2 x4.toNatClampNeg) &&& 15) = 2)) (g23 : ¬ (((X.2 x4.toNatClampNeg) &&& 15) = 3)) (g30 : ¬ (((X.2 x4.toNatClampNeg) &&& 15) = 4)) (g37 : ¬ (((X.2 x4.toNatClampNeg) &&& 15) = 5)) (g41 : ¬ (((X.2 x4.toNatClampNeg) &&& 15) = 6)) (g48 : ¬ (((X.2 x4.toNatClampNeg) &&& 15) = 7)) (g55 : ¬ (((X.2 x4.toNatClampNeg) &&& 15) = 8)) (g62 : ¬ (((X.2 x4.toNatClampNeg) &&& 15) = 9)) (g69 : ¬ (((X.2 x4.toNatClampNeg) &&& 15) = 10)) (g76 : ¬ (((X.2 x4.toNatClampNeg) &&& 15) = 11)) (g83 : ¬ (((X.2 x4.toNatClampNeg) &&& 15) = 12)) (g90 : ((X.2 x4.toNatClampNeg) &&& 15) = 13) (g94 : ¬ x193 = x191), (.inl (some (aI 0), M41) : Fin') = fin)
    (k153 : ∀ (g1 : ¬ (((Int32.ofNat X.1) - 6) < x4)) (g2 : ¬ (((X.2 x4.toNatClampNeg) &&& 15) = 0)) (g9 : ¬ (((X.2 x4.toNatClampNeg) &&& 15) = 1)) (g16 : ¬ (((X.2 x4.toNatClampNeg) &&& 15) = 2)) (g23 : ¬ (((X.2 x4.toNatClampNeg) &&& 15) = 3)) (g30 : ¬ (((X.2 x4.toNatClampNeg) &&& 15) = 4)) (g37 : ¬ (((X.2 x4.toNatClampNeg) &&& 15) = 5)) (g41 : ¬ (((X.2 x4.toNatClampNeg) &&& 15) = 6)) (g48 : ¬ (((X.2 x4.toNatClampNeg) &&& 15) = 7)) (g55 : ¬ (((X.2 x4.toNatClampNeg) &&& 15) = 8)) (g62 : ¬ (((X.2 x4.toNatClampNeg) &&& 15) = 9)) (g69 : ¬ (((X.2 x4.toNatClampNeg) &&& 15) = 10)) (g76 : ¬ (((X.2 x4.toNatClampNeg) &&& 15) = 11)) (g83 : ¬ (((X.2 x4.toNatClampNeg) &&& 15) = 12)) (g90 : ¬ (((X.2 x4.toNatClampNeg) &&& 15) = 13)), TX X K_L_law 23 [some (aR (some 0)), some (aR (some 3)), some (aR (some 26)), some (aR (some 57)), some (aI (x4 + 6)), none, none, none] [] M fin) :
    TX X K_L_law 23 [some (aR (some 0)), some (aR (some 3)), some (aR (some 26)), some (aR (some 57)), some (aI x4), none, none, none] [] M fin := by
  refine tx_iload dL_law_23 rfl ?_
  refine tx_aload_n dL_law_25 rfl ?_
  refine tx_rolen dL_law_26 ?_
  refine tx_bipush (u := 6) dL_law_27 (by decide) ?_
  refine tx_isub dL_law_29 ?_
  refine tx_icmp_gt (tgt := 1109) dL_law_30 rfl (fun g1 => ?_) (fun g1 => ?_)
  ·
    refine tx_iconst (u := 1) dL_law_1109 (by decide) ?_
    exact tx_zret rfl (Or.inr rfl) dL_law_1110 (k1 g1)
  ·
    refine tx_aload_n dL_law_33 rfl ?_
    refine tx_iload dL_law_34 rfl ?_
    refine tx_ro (b2 g1) dL_law_36 ?_
    refine tx_bipush (u := 15) dL_law_37 (by decide) ?_
    refine tx_iand dL_law_39 ?_
    refine tx_tsw (d := 1103) (tg := [112, 192, 304, 428, 496, 552, 565, 633, 689, 757, 824, 912, 980, 1035]) dL_law_40 rfl rfl rfl ?_
    by_cases g2 : ((X.2 x4.toNatClampNeg) &&& 15) = 0
    · have e9 : tsw 0 [112, 192, 304, 428, 496, 552, 565, 633, 689, 757, 824, 912, 980, 1035] 1103 ((X.2 x4.toNatClampNeg) &&& 15) = 112 := by rw [g2]; rfl
      rw [e9]
      refine tx_aload_n dL_law_112 rfl ?_
      refine tx_aload_n dL_law_113 rfl ?_
      refine tx_iload dL_law_114 rfl ?_
      refine tx_iconst (u := 1) dL_law_116 (by decide) ?_
      refine tx_iadd dL_law_117 ?_
      refine tx_ro (b3 g1 g2) dL_law_118 ?_
      refine tx_aload_n dL_law_119 rfl ?_
      refine tx_iload dL_law_120 rfl ?_
      refine tx_iconst (u := 2) dL_law_122 (by decide) ?_
      refine tx_iadd dL_law_123 ?_
      refine tx_ro (b4 g1 g2) dL_law_124 ?_
      refine tx_aload_n dL_law_125 rfl ?_
      refine tx_iload dL_law_126 rfl ?_
      refine tx_iconst (u := 3) dL_law_128 (by decide) ?_
      refine tx_iadd dL_law_129 ?_
      refine tx_ro (b5 g1 g2) dL_law_130 ?_
      refine tx_aload_n dL_law_131 rfl ?_
      refine tx_callSH (As := [aR (some 3), aI (X.2 (x4 + 1).toNatClampNeg), aI (X.2 (x4 + 2).toNatClampNeg), aI (X.2 (x4 + 3).toNatClampNeg), aR (some 57)]) (rest := []) yh_L_method w264 ⟨by decide, by decide⟩ (Nat.le_of_ble_eq_true rfl) dL_law_132 (c6 g1 g2) ?_
      show TX X K_L_law 135 [some (aR (some 0)), some (aR (some 3)), some (aR (some 26)), some (aR (some 57)), some (aI x4), none, none, none] [aI x103] M1 fin
      have hS_1 : St M1 := (h7 g1 g2)
      refine tx_istore dL_law_135 (Nat.le_of_ble_eq_true rfl) ?_
      show TX X K_L_law 137 [some (aR (some 0)), some (aR (some 3)), some (aR (some 26)), some (aR (some 57)), some (aI x4), some (aI x103), none, none] [] M1 fin
      refine tx_aload_n dL_law_137 rfl ?_
      refine tx_aload_n dL_law_138 rfl ?_
      refine tx_iload dL_law_139 rfl ?_
      refine tx_iconst (u := 1) dL_law_141 (by decide) ?_
      refine tx_iadd dL_law_142 ?_
      refine tx_ro (b3 g1 g2) dL_law_143 ?_
      refine tx_aload_n dL_law_144 rfl ?_
      refine tx_iload dL_law_145 rfl ?_
      refine tx_iconst (u := 2) dL_law_147 (by decide) ?_
      refine tx_iadd dL_law_148 ?_
      refine tx_ro (b4 g1 g2) dL_law_149 ?_
      refine tx_aload_n dL_law_150 rfl ?_
      refine tx_iload dL_law_151 rfl ?_
      refine tx_iconst (u := 3) dL_law_153 (by decide) ?_
      refine tx_iadd dL_law_154 ?_
      refine tx_ro (b5 g1 g2) dL_law_155 ?_
      refine tx_callV (As := [aI (X.2 (x4 + 1).toNatClampNeg), aI (X.2 (x4 + 2).toNatClampNeg), aI (X.2 (x4 + 3).toNatClampNeg)]) (rest := []) vk_X7_method hS_1.l26 w964 ⟨by decide, by decide⟩ (Nat.le_of_ble_eq_true rfl) dL_law_156 (c8 g1 g2) ?_
      show TX X K_L_law 159 [some (aR (some 0)), some (aR (some 3)), some (aR (some 26)), some (aR (some 57)), some (aI x4), some (aI x103), none, none] [aI x104] M2 fin
      have hS_2 : St M2 := St.sh (M := M1) (c8 g1 g2).2.1 hS_1
      refine tx_istore dL_law_159 (Nat.le_of_ble_eq_true rfl) ?_
      show TX X K_L_law 161 [some (aR (some 0)), some (aR (some 3)), some (aR (some 26)), some (aR (some 57)), some (aI x4), some (aI x103), some (aI x104), none] [] M2 fin
      refine tx_aload_n dL_law_161 rfl ?_
      refine tx_callV (As := []) (rest := []) vk_X7_thrown hS_2.l26 w960 ⟨by decide, by decide⟩ (Nat.le_of_ble_eq_true rfl) dL_law_162 (c9 g1 g2) ?_
      show TX X K_L_law 165 [some (aR (some 0)), some (aR (some 3)), some (aR (some 26)), some (aR (some 57)), some (aI x4), some (aI x103), some (aI x104), none] [aI x105] M3 fin
      have hS_3 : St M3 := St.sh (M := M2) (c9 g1 g2).2.1 hS_2
      refine tx_iload dL_law_165 rfl ?_
      refine tx_icmp_eq (tgt := 172) dL_law_167 rfl (fun g6 => ?_) (fun g6 => ?_)
      ·
        refine tx_iload dL_law_172 rfl ?_
        refine tx_if_ne (tgt := 189) dL_law_174 rfl (fun g7 => ?_) (fun g7 => ?_)
        ·
          refine tx_goto (tgt := 1103) dL_law_189 rfl ?_
          refine tx_iinc dL_law_1103 rfl ?_
          show TX X K_L_law 1106 [some (aR (some 0)), some (aR (some 3)), some (aR (some 26)), some (aR (some 57)), some (aI (x4 + 6)), some (aI x103), some (aI x104), none] [] M3 fin
          refine tx_goto (tgt := 23) dL_law_1106 rfl ?_
          exact (k10 g1 g2 g6 g7)
        ·
          refine tx_aload_n dL_law_177 rfl ?_
          refine tx_iconst (u := 0) dL_law_178 (by decide) ?_
          refine tx_lald hS_3.l57 (hS_3.b57 (b11 g1 g2 g6 g7)) dL_law_179 ?_
          refine tx_iload dL_law_180 rfl ?_
          refine tx_i2l dL_law_182 ?_
          refine tx_lcmp_eq (tgt := 189) dL_law_183 dL_law_184 rfl (fun g8 => ?_) (fun g8 => ?_)
          ·
            refine tx_goto (tgt := 1103) dL_law_189 rfl ?_
            refine tx_iinc dL_law_1103 rfl ?_
            show TX X K_L_law 1106 [some (aR (some 0)), some (aR (some 3)), some (aR (some 26)), some (aR (some 57)), some (aI (x4 + 6)), some (aI x103), some (aI x104), none] [] M3 fin
            refine tx_goto (tgt := 23) dL_law_1106 rfl ?_
            exact (k12 g1 g2 g6 g7 g8)
          ·
            refine tx_iconst (u := 0) dL_law_187 (by decide) ?_
            exact tx_zret rfl (Or.inl rfl) dL_law_188 (k13 g1 g2 g6 g7 g8)
      ·
        refine tx_iconst (u := 0) dL_law_170 (by decide) ?_
        exact tx_zret rfl (Or.inl rfl) dL_law_171 (k14 g1 g2 g6)
    by_cases g9 : ((X.2 x4.toNatClampNeg) &&& 15) = 1
    · have e9 : tsw 0 [112, 192, 304, 428, 496, 552, 565, 633, 689, 757, 824, 912, 980, 1035] 1103 ((X.2 x4.toNatClampNeg) &&& 15) = 192 := by rw [g9]; rfl
      rw [e9]
      refine tx_aload_n dL_law_192 rfl ?_
      refine tx_aload_n dL_law_193 rfl ?_
      refine tx_iload dL_law_194 rfl ?_
      refine tx_iconst (u := 1) dL_law_196 (by decide) ?_
      refine tx_iadd dL_law_197 ?_
      refine tx_ro (b15 g1 g2 g9) dL_law_198 ?_
      refine tx_aload_n dL_law_199 rfl ?_
      refine tx_iload dL_law_200 rfl ?_
      refine tx_iconst (u := 2) dL_law_202 (by decide) ?_
      refine tx_iadd dL_law_203 ?_
      refine tx_ro (b16 g1 g2 g9) dL_law_204 ?_
      refine tx_aload_n dL_law_205 rfl ?_
      refine tx_iload dL_law_206 rfl ?_
      refine tx_iconst (u := 3) dL_law_208 (by decide) ?_
      refine tx_iadd dL_law_209 ?_
      refine tx_ro (b17 g1 g2 g9) dL_law_210 ?_
      refine tx_i2l dL_law_211 ?_
      refine tx_bipush (u := 32) dL_law_212 (by decide) ?_
      refine tx_lshl dL_law_214 ?_
      refine tx_aload_n dL_law_215 rfl ?_
      refine tx_iload dL_law_216 rfl ?_
      refine tx_iconst (u := 4) dL_law_218 (by decide) ?_
      refine tx_iadd dL_law_219 ?_
      refine tx_ro (b18 g1 g2 g9) dL_law_220 ?_
      refine tx_i2l dL_law_221 ?_
      refine tx_ldc2 dL_law_222 w1144 ?_
      refine tx_land dL_law_225 ?_
      refine tx_lor dL_law_226 ?_
      refine tx_aload_n dL_law_227 rfl ?_
      refine tx_callSH (As := [aR (some 3), aI (X.2 (x4 + 1).toNatClampNeg), aI (X.2 (x4 + 2).toNatClampNeg), aJ ((((X.2 (x4 + 3).toNatClampNeg : Int32).toInt64) <<< ((32 : Int32).toInt64 &&& 63)) ||| (((X.2 (x4 + 4).toNatClampNeg : Int32).toInt64) &&& 4294967295)), aR (some 57)]) (rest := []) yh_L_add w419 ⟨by decide, by decide⟩ (Nat.le_of_ble_eq_true rfl) dL_law_228 (c19 g1 g2 g9) ?_
      show TX X K_L_law 231 [some (aR (some 0)), some (aR (some 3)), some (aR (some 26)), some (aR (some 57)), some (aI x4), none, none, none] [aI x110] M4 fin
      have hS_4 : St M4 := (h20 g1 g2 g9)
      refine tx_istore dL_law_231 (Nat.le_of_ble_eq_true rfl) ?_
      show TX X K_L_law 233 [some (aR (some 0)), some (aR (some 3)), some (aR (some 26)), some (aR (some 57)), some (aI x4), some (aI x110), none, none] [] M4 fin
      refine tx_aload_n dL_law_233 rfl ?_
      refine tx_aload_n dL_law_234 rfl ?_
      refine tx_iload dL_law_235 rfl ?_
      refine tx_iconst (u := 1) dL_law_237 (by decide) ?_
      refine tx_iadd dL_law_238 ?_
      refine tx_ro (b15 g1 g2 g9) dL_law_239 ?_
      refine tx_aload_n dL_law_240 rfl ?_
      refine tx_iload dL_law_241 rfl ?_
      refine tx_iconst (u := 2) dL_law_243 (by decide) ?_
      refine tx_iadd dL_law_244 ?_
      refine tx_ro (b16 g1 g2 g9) dL_law_245 ?_
      refine tx_aload_n dL_law_246 rfl ?_
      refine tx_iload dL_law_247 rfl ?_
      refine tx_iconst (u := 3) dL_law_249 (by decide) ?_
      refine tx_iadd dL_law_250 ?_
      refine tx_ro (b17 g1 g2 g9) dL_law_251 ?_
      refine tx_i2l dL_law_252 ?_
      refine tx_bipush (u := 32) dL_law_253 (by decide) ?_
      refine tx_lshl dL_law_255 ?_
      refine tx_aload_n dL_law_256 rfl ?_
      refine tx_iload dL_law_257 rfl ?_
      refine tx_iconst (u := 4) dL_law_259 (by decide) ?_
      refine tx_iadd dL_law_260 ?_
      refine tx_ro (b18 g1 g2 g9) dL_law_261 ?_
      refine tx_i2l dL_law_262 ?_
      refine tx_ldc2 dL_law_263 w1144 ?_
      refine tx_land dL_law_266 ?_
      refine tx_lor dL_law_267 ?_
      refine tx_callV (As := [aI (X.2 (x4 + 1).toNatClampNeg), aI (X.2 (x4 + 2).toNatClampNeg), aJ ((((X.2 (x4 + 3).toNatClampNeg : Int32).toInt64) <<< ((32 : Int32).toInt64 &&& 63)) ||| (((X.2 (x4 + 4).toNatClampNeg : Int32).toInt64) &&& 4294967295))]) (rest := []) vk_X7_add hS_4.l26 w968 ⟨by decide, by decide⟩ (Nat.le_of_ble_eq_true rfl) dL_law_268 (c21 g1 g2 g9) ?_
      show TX X K_L_law 271 [some (aR (some 0)), some (aR (some 3)), some (aR (some 26)), some (aR (some 57)), some (aI x4), some (aI x110), none, none] [aI x111] M5 fin
      have hS_5 : St M5 := St.sh (M := M4) (c21 g1 g2 g9).2.1 hS_4
      refine tx_istore dL_law_271 (Nat.le_of_ble_eq_true rfl) ?_
      show TX X K_L_law 273 [some (aR (some 0)), some (aR (some 3)), some (aR (some 26)), some (aR (some 57)), some (aI x4), some (aI x110), some (aI x111), none] [] M5 fin
      refine tx_aload_n dL_law_273 rfl ?_
      refine tx_callV (As := []) (rest := []) vk_X7_thrown hS_5.l26 w960 ⟨by decide, by decide⟩ (Nat.le_of_ble_eq_true rfl) dL_law_274 (c22 g1 g2 g9) ?_
      show TX X K_L_law 277 [some (aR (some 0)), some (aR (some 3)), some (aR (some 26)), some (aR (some 57)), some (aI x4), some (aI x110), some (aI x111), none] [aI x112] M6 fin
      have hS_6 : St M6 := St.sh (M := M5) (c22 g1 g2 g9).2.1 hS_5
      refine tx_iload dL_law_277 rfl ?_
      refine tx_icmp_eq (tgt := 284) dL_law_279 rfl (fun g13 => ?_) (fun g13 => ?_)
      ·
        refine tx_iload dL_law_284 rfl ?_
        refine tx_if_ne (tgt := 301) dL_law_286 rfl (fun g14 => ?_) (fun g14 => ?_)
        ·
          refine tx_goto (tgt := 1103) dL_law_301 rfl ?_
          refine tx_iinc dL_law_1103 rfl ?_
          show TX X K_L_law 1106 [some (aR (some 0)), some (aR (some 3)), some (aR (some 26)), some (aR (some 57)), some (aI (x4 + 6)), some (aI x110), some (aI x111), none] [] M6 fin
          refine tx_goto (tgt := 23) dL_law_1106 rfl ?_
          exact (k23 g1 g2 g9 g13 g14)
        ·
          refine tx_aload_n dL_law_289 rfl ?_
          refine tx_iconst (u := 0) dL_law_290 (by decide) ?_
          refine tx_lald hS_6.l57 (hS_6.b57 (b24 g1 g2 g9 g13 g14)) dL_law_291 ?_
          refine tx_iload dL_law_292 rfl ?_
          refine tx_i2l dL_law_294 ?_
          refine tx_lcmp_eq (tgt := 301) dL_law_295 dL_law_296 rfl (fun g15 => ?_) (fun g15 => ?_)
          ·
            refine tx_goto (tgt := 1103) dL_law_301 rfl ?_
            refine tx_iinc dL_law_1103 rfl ?_
            show TX X K_L_law 1106 [some (aR (some 0)), some (aR (some 3)), some (aR (some 26)), some (aR (some 57)), some (aI (x4 + 6)), some (aI x110), some (aI x111), none] [] M6 fin
            refine tx_goto (tgt := 23) dL_law_1106 rfl ?_
            exact (k25 g1 g2 g9 g13 g14 g15)
          ·
            refine tx_iconst (u := 0) dL_law_299 (by decide) ?_
            exact tx_zret rfl (Or.inl rfl) dL_law_300 (k26 g1 g2 g9 g13 g14 g15)
      ·
        refine tx_iconst (u := 0) dL_law_282 (by decide) ?_
        exact tx_zret rfl (Or.inl rfl) dL_law_283 (k27 g1 g2 g9 g13)
    by_cases g16 : ((X.2 x4.toNatClampNeg) &&& 15) = 2
    · have e9 : tsw 0 [112, 192, 304, 428, 496, 552, 565, 633, 689, 757, 824, 912, 980, 1035] 1103 ((X.2 x4.toNatClampNeg) &&& 15) = 304 := by rw [g16]; rfl
      rw [e9]
      refine tx_aload_n dL_law_304 rfl ?_
      refine tx_aload_n dL_law_305 rfl ?_
      refine tx_iload dL_law_306 rfl ?_
      refine tx_iconst (u := 1) dL_law_308 (by decide) ?_
      refine tx_iadd dL_law_309 ?_
      refine tx_ro (b28 g1 g2 g9 g16) dL_law_310 ?_
      refine tx_aload_n dL_law_311 rfl ?_
      refine tx_iload dL_law_312 rfl ?_
      refine tx_iconst (u := 2) dL_law_314 (by decide) ?_
      refine tx_iadd dL_law_315 ?_
      refine tx_ro (b29 g1 g2 g9 g16) dL_law_316 ?_
      refine tx_aload_n dL_law_317 rfl ?_
      refine tx_iload dL_law_318 rfl ?_
      refine tx_iconst (u := 3) dL_law_320 (by decide) ?_
      refine tx_iadd dL_law_321 ?_
      refine tx_ro (b30 g1 g2 g9 g16) dL_law_322 ?_
      refine tx_aload_n dL_law_323 rfl ?_
      refine tx_iload dL_law_324 rfl ?_
      refine tx_iconst (u := 4) dL_law_326 (by decide) ?_
      refine tx_iadd dL_law_327 ?_
      refine tx_ro (b31 g1 g2 g9 g16) dL_law_328 ?_
      refine tx_i2l dL_law_329 ?_
      refine tx_bipush (u := 32) dL_law_330 (by decide) ?_
      refine tx_lshl dL_law_332 ?_
      refine tx_aload_n dL_law_333 rfl ?_
      refine tx_iload dL_law_334 rfl ?_
      refine tx_iconst (u := 5) dL_law_336 (by decide) ?_
      refine tx_iadd dL_law_337 ?_
      refine tx_ro (b32 g1 g2 g9 g16) dL_law_338 ?_
      refine tx_i2l dL_law_339 ?_
      refine tx_ldc2 dL_law_340 w1144 ?_
      refine tx_land dL_law_343 ?_
      refine tx_lor dL_law_344 ?_
      refine tx_aload_n dL_law_345 rfl ?_
      refine tx_callSH (As := [aR (some 3), aI (X.2 (x4 + 1).toNatClampNeg), aI (X.2 (x4 + 2).toNatClampNeg), aI (X.2 (x4 + 3).toNatClampNeg), aJ ((((X.2 (x4 + 4).toNatClampNeg : Int32).toInt64) <<< ((32 : Int32).toInt64 &&& 63)) ||| (((X.2 (x4 + 5).toNatClampNeg : Int32).toInt64) &&& 4294967295)), aR (some 57)]) (rest := []) yh_L_change w463 ⟨by decide, by decide⟩ (Nat.le_of_ble_eq_true rfl) dL_law_346 (c33 g1 g2 g9 g16) ?_
      show TX X K_L_law 349 [some (aR (some 0)), some (aR (some 3)), some (aR (some 26)), some (aR (some 57)), some (aI x4), none, none, none] [aI x117] M7 fin
      have hS_7 : St M7 := (h34 g1 g2 g9 g16)
      refine tx_istore dL_law_349 (Nat.le_of_ble_eq_true rfl) ?_
      show TX X K_L_law 351 [some (aR (some 0)), some (aR (some 3)), some (aR (some 26)), some (aR (some 57)), some (aI x4), some (aI x117), none, none] [] M7 fin
      refine tx_aload_n dL_law_351 rfl ?_
      refine tx_aload_n dL_law_352 rfl ?_
      refine tx_iload dL_law_353 rfl ?_
      refine tx_iconst (u := 1) dL_law_355 (by decide) ?_
      refine tx_iadd dL_law_356 ?_
      refine tx_ro (b28 g1 g2 g9 g16) dL_law_357 ?_
      refine tx_aload_n dL_law_358 rfl ?_
      refine tx_iload dL_law_359 rfl ?_
      refine tx_iconst (u := 2) dL_law_361 (by decide) ?_
      refine tx_iadd dL_law_362 ?_
      refine tx_ro (b29 g1 g2 g9 g16) dL_law_363 ?_
      refine tx_aload_n dL_law_364 rfl ?_
      refine tx_iload dL_law_365 rfl ?_
      refine tx_iconst (u := 3) dL_law_367 (by decide) ?_
      refine tx_iadd dL_law_368 ?_
      refine tx_ro (b30 g1 g2 g9 g16) dL_law_369 ?_
      refine tx_aload_n dL_law_370 rfl ?_
      refine tx_iload dL_law_371 rfl ?_
      refine tx_iconst (u := 4) dL_law_373 (by decide) ?_
      refine tx_iadd dL_law_374 ?_
      refine tx_ro (b31 g1 g2 g9 g16) dL_law_375 ?_
      refine tx_i2l dL_law_376 ?_
      refine tx_bipush (u := 32) dL_law_377 (by decide) ?_
      refine tx_lshl dL_law_379 ?_
      refine tx_aload_n dL_law_380 rfl ?_
      refine tx_iload dL_law_381 rfl ?_
      refine tx_iconst (u := 5) dL_law_383 (by decide) ?_
      refine tx_iadd dL_law_384 ?_
      refine tx_ro (b32 g1 g2 g9 g16) dL_law_385 ?_
      refine tx_i2l dL_law_386 ?_
      refine tx_ldc2 dL_law_387 w1144 ?_
      refine tx_land dL_law_390 ?_
      refine tx_lor dL_law_391 ?_
      refine tx_callV (As := [aI (X.2 (x4 + 1).toNatClampNeg), aI (X.2 (x4 + 2).toNatClampNeg), aI (X.2 (x4 + 3).toNatClampNeg), aJ ((((X.2 (x4 + 4).toNatClampNeg : Int32).toInt64) <<< ((32 : Int32).toInt64 &&& 63)) ||| (((X.2 (x4 + 5).toNatClampNeg : Int32).toInt64) &&& 4294967295))]) (rest := []) vk_X7_change hS_7.l26 w976 ⟨by decide, by decide⟩ (Nat.le_of_ble_eq_true rfl) dL_law_392 (c35 g1 g2 g9 g16) ?_
      show TX X K_L_law 395 [some (aR (some 0)), some (aR (some 3)), some (aR (some 26)), some (aR (some 57)), some (aI x4), some (aI x117), none, none] [aI x118] M8 fin
      have hS_8 : St M8 := St.sh (M := M7) (c35 g1 g2 g9 g16).2.1 hS_7
      refine tx_istore dL_law_395 (Nat.le_of_ble_eq_true rfl) ?_
      show TX X K_L_law 397 [some (aR (some 0)), some (aR (some 3)), some (aR (some 26)), some (aR (some 57)), some (aI x4), some (aI x117), some (aI x118), none] [] M8 fin
      refine tx_aload_n dL_law_397 rfl ?_
      refine tx_callV (As := []) (rest := []) vk_X7_thrown hS_8.l26 w960 ⟨by decide, by decide⟩ (Nat.le_of_ble_eq_true rfl) dL_law_398 (c36 g1 g2 g9 g16) ?_
      show TX X K_L_law 401 [some (aR (some 0)), some (aR (some 3)), some (aR (some 26)), some (aR (some 57)), some (aI x4), some (aI x117), some (aI x118), none] [aI x119] M9 fin
      have hS_9 : St M9 := St.sh (M := M8) (c36 g1 g2 g9 g16).2.1 hS_8
      refine tx_iload dL_law_401 rfl ?_
      refine tx_icmp_eq (tgt := 408) dL_law_403 rfl (fun g20 => ?_) (fun g20 => ?_)
      ·
        refine tx_iload dL_law_408 rfl ?_
        refine tx_if_ne (tgt := 425) dL_law_410 rfl (fun g21 => ?_) (fun g21 => ?_)
        ·
          refine tx_goto (tgt := 1103) dL_law_425 rfl ?_
          refine tx_iinc dL_law_1103 rfl ?_
          show TX X K_L_law 1106 [some (aR (some 0)), some (aR (some 3)), some (aR (some 26)), some (aR (some 57)), some (aI (x4 + 6)), some (aI x117), some (aI x118), none] [] M9 fin
          refine tx_goto (tgt := 23) dL_law_1106 rfl ?_
          exact (k37 g1 g2 g9 g16 g20 g21)
        ·
          refine tx_aload_n dL_law_413 rfl ?_
          refine tx_iconst (u := 0) dL_law_414 (by decide) ?_
          refine tx_lald hS_9.l57 (hS_9.b57 (b38 g1 g2 g9 g16 g20 g21)) dL_law_415 ?_
          refine tx_iload dL_law_416 rfl ?_
          refine tx_i2l dL_law_418 ?_
          refine tx_lcmp_eq (tgt := 425) dL_law_419 dL_law_420 rfl (fun g22 => ?_) (fun g22 => ?_)
          ·
            refine tx_goto (tgt := 1103) dL_law_425 rfl ?_
            refine tx_iinc dL_law_1103 rfl ?_
            show TX X K_L_law 1106 [some (aR (some 0)), some (aR (some 3)), some (aR (some 26)), some (aR (some 57)), some (aI (x4 + 6)), some (aI x117), some (aI x118), none] [] M9 fin
            refine tx_goto (tgt := 23) dL_law_1106 rfl ?_
            exact (k39 g1 g2 g9 g16 g20 g21 g22)
          ·
            refine tx_iconst (u := 0) dL_law_423 (by decide) ?_
            exact tx_zret rfl (Or.inl rfl) dL_law_424 (k40 g1 g2 g9 g16 g20 g21 g22)
      ·
        refine tx_iconst (u := 0) dL_law_406 (by decide) ?_
        exact tx_zret rfl (Or.inl rfl) dL_law_407 (k41 g1 g2 g9 g16 g20)
    by_cases g23 : ((X.2 x4.toNatClampNeg) &&& 15) = 3
    · have e9 : tsw 0 [112, 192, 304, 428, 496, 552, 565, 633, 689, 757, 824, 912, 980, 1035] 1103 ((X.2 x4.toNatClampNeg) &&& 15) = 428 := by rw [g23]; rfl
      rw [e9]
      refine tx_aload_n dL_law_428 rfl ?_
      refine tx_aload_n dL_law_429 rfl ?_
      refine tx_iload dL_law_430 rfl ?_
      refine tx_iconst (u := 1) dL_law_432 (by decide) ?_
      refine tx_iadd dL_law_433 ?_
      refine tx_ro (b42 g1 g2 g9 g16 g23) dL_law_434 ?_
      refine tx_aload_n dL_law_435 rfl ?_
      refine tx_iload dL_law_436 rfl ?_
      refine tx_iconst (u := 2) dL_law_438 (by decide) ?_
      refine tx_iadd dL_law_439 ?_
      refine tx_ro (b43 g1 g2 g9 g16 g23) dL_law_440 ?_
      refine tx_aload_n dL_law_441 rfl ?_
      refine tx_callSH (As := [aR (some 3), aI (X.2 (x4 + 1).toNatClampNeg), aI (X.2 (x4 + 2).toNatClampNeg), aR (some 57)]) (rest := []) yh_L_cost w477 ⟨by decide, by decide⟩ (Nat.le_of_ble_eq_true rfl) dL_law_442 (c44 g1 g2 g9 g16 g23) ?_
      show TX X K_L_law 445 [some (aR (some 0)), some (aR (some 3)), some (aR (some 26)), some (aR (some 57)), some (aI x4), none, none, none] [aI x124] M10 fin
      have hS_10 : St M10 := (h45 g1 g2 g9 g16 g23)
      refine tx_istore dL_law_445 (Nat.le_of_ble_eq_true rfl) ?_
      show TX X K_L_law 447 [some (aR (some 0)), some (aR (some 3)), some (aR (some 26)), some (aR (some 57)), some (aI x4), some (aI x124), none, none] [] M10 fin
      refine tx_aload_n dL_law_447 rfl ?_
      refine tx_aload_n dL_law_448 rfl ?_
      refine tx_iload dL_law_449 rfl ?_
      refine tx_iconst (u := 1) dL_law_451 (by decide) ?_
      refine tx_iadd dL_law_452 ?_
      refine tx_ro (b42 g1 g2 g9 g16 g23) dL_law_453 ?_
      refine tx_aload_n dL_law_454 rfl ?_
      refine tx_iload dL_law_455 rfl ?_
      refine tx_iconst (u := 2) dL_law_457 (by decide) ?_
      refine tx_iadd dL_law_458 ?_
      refine tx_ro (b43 g1 g2 g9 g16 g23) dL_law_459 ?_
      refine tx_callV (As := [aI (X.2 (x4 + 1).toNatClampNeg), aI (X.2 (x4 + 2).toNatClampNeg)]) (rest := []) vk_X7_cost hS_10.l26 w980 ⟨by decide, by decide⟩ (Nat.le_of_ble_eq_true rfl) dL_law_460 (c46 g1 g2 g9 g16 g23) ?_
      show TX X K_L_law 463 [some (aR (some 0)), some (aR (some 3)), some (aR (some 26)), some (aR (some 57)), some (aI x4), some (aI x124), none, none] [aI x125] M11 fin
      have hS_11 : St M11 := St.sh (M := M10) (c46 g1 g2 g9 g16 g23).2.1 hS_10
      refine tx_istore dL_law_463 (Nat.le_of_ble_eq_true rfl) ?_
      show TX X K_L_law 465 [some (aR (some 0)), some (aR (some 3)), some (aR (some 26)), some (aR (some 57)), some (aI x4), some (aI x124), some (aI x125), none] [] M11 fin
      refine tx_aload_n dL_law_465 rfl ?_
      refine tx_callV (As := []) (rest := []) vk_X7_thrown hS_11.l26 w960 ⟨by decide, by decide⟩ (Nat.le_of_ble_eq_true rfl) dL_law_466 (c47 g1 g2 g9 g16 g23) ?_
      show TX X K_L_law 469 [some (aR (some 0)), some (aR (some 3)), some (aR (some 26)), some (aR (some 57)), some (aI x4), some (aI x124), some (aI x125), none] [aI x126] M12 fin
      have hS_12 : St M12 := St.sh (M := M11) (c47 g1 g2 g9 g16 g23).2.1 hS_11
      refine tx_iload dL_law_469 rfl ?_
      refine tx_icmp_eq (tgt := 476) dL_law_471 rfl (fun g27 => ?_) (fun g27 => ?_)
      ·
        refine tx_iload dL_law_476 rfl ?_
        refine tx_if_ne (tgt := 493) dL_law_478 rfl (fun g28 => ?_) (fun g28 => ?_)
        ·
          refine tx_goto (tgt := 1103) dL_law_493 rfl ?_
          refine tx_iinc dL_law_1103 rfl ?_
          show TX X K_L_law 1106 [some (aR (some 0)), some (aR (some 3)), some (aR (some 26)), some (aR (some 57)), some (aI (x4 + 6)), some (aI x124), some (aI x125), none] [] M12 fin
          refine tx_goto (tgt := 23) dL_law_1106 rfl ?_
          exact (k48 g1 g2 g9 g16 g23 g27 g28)
        ·
          refine tx_aload_n dL_law_481 rfl ?_
          refine tx_iconst (u := 0) dL_law_482 (by decide) ?_
          refine tx_lald hS_12.l57 (hS_12.b57 (b49 g1 g2 g9 g16 g23 g27 g28)) dL_law_483 ?_
          refine tx_iload dL_law_484 rfl ?_
          refine tx_i2l dL_law_486 ?_
          refine tx_lcmp_eq (tgt := 493) dL_law_487 dL_law_488 rfl (fun g29 => ?_) (fun g29 => ?_)
          ·
            refine tx_goto (tgt := 1103) dL_law_493 rfl ?_
            refine tx_iinc dL_law_1103 rfl ?_
            show TX X K_L_law 1106 [some (aR (some 0)), some (aR (some 3)), some (aR (some 26)), some (aR (some 57)), some (aI (x4 + 6)), some (aI x124), some (aI x125), none] [] M12 fin
            refine tx_goto (tgt := 23) dL_law_1106 rfl ?_
            exact (k50 g1 g2 g9 g16 g23 g27 g28 g29)
          ·
            refine tx_iconst (u := 0) dL_law_491 (by decide) ?_
            exact tx_zret rfl (Or.inl rfl) dL_law_492 (k51 g1 g2 g9 g16 g23 g27 g28 g29)
      ·
        refine tx_iconst (u := 0) dL_law_474 (by decide) ?_
        exact tx_zret rfl (Or.inl rfl) dL_law_475 (k52 g1 g2 g9 g16 g23 g27)
    by_cases g30 : ((X.2 x4.toNatClampNeg) &&& 15) = 4
    · have e9 : tsw 0 [112, 192, 304, 428, 496, 552, 565, 633, 689, 757, 824, 912, 980, 1035] 1103 ((X.2 x4.toNatClampNeg) &&& 15) = 496 := by rw [g30]; rfl
      rw [e9]
      refine tx_aload_n dL_law_496 rfl ?_
      refine tx_aload_n dL_law_497 rfl ?_
      refine tx_iload dL_law_498 rfl ?_
      refine tx_iconst (u := 1) dL_law_500 (by decide) ?_
      refine tx_iadd dL_law_501 ?_
      refine tx_ro (b53 g1 g2 g9 g16 g23 g30) dL_law_502 ?_
      refine tx_aload_n dL_law_503 rfl ?_
      refine tx_callSH (As := [aR (some 3), aI (X.2 (x4 + 1).toNatClampNeg), aR (some 57)]) (rest := []) yh_L_check w499 ⟨by decide, by decide⟩ (Nat.le_of_ble_eq_true rfl) dL_law_504 (c54 g1 g2 g9 g16 g23 g30) ?_
      show TX X K_L_law 507 [some (aR (some 0)), some (aR (some 3)), some (aR (some 26)), some (aR (some 57)), some (aI x4), none, none, none] [aI x131] M13 fin
      have hS_13 : St M13 := (h55 g1 g2 g9 g16 g23 g30)
      refine tx_istore dL_law_507 (Nat.le_of_ble_eq_true rfl) ?_
      show TX X K_L_law 509 [some (aR (some 0)), some (aR (some 3)), some (aR (some 26)), some (aR (some 57)), some (aI x4), some (aI x131), none, none] [] M13 fin
      refine tx_aload_n dL_law_509 rfl ?_
      refine tx_aload_n dL_law_510 rfl ?_
      refine tx_iload dL_law_511 rfl ?_
      refine tx_iconst (u := 1) dL_law_513 (by decide) ?_
      refine tx_iadd dL_law_514 ?_
      refine tx_ro (b53 g1 g2 g9 g16 g23 g30) dL_law_515 ?_
      refine tx_callV (As := [aI (X.2 (x4 + 1).toNatClampNeg)]) (rest := []) vk_X7_check hS_13.l26 w985 ⟨by decide, by decide⟩ (Nat.le_of_ble_eq_true rfl) dL_law_516 (c56 g1 g2 g9 g16 g23 g30) ?_
      show TX X K_L_law 519 [some (aR (some 0)), some (aR (some 3)), some (aR (some 26)), some (aR (some 57)), some (aI x4), some (aI x131), none, none] [aI x132] M14 fin
      have hS_14 : St M14 := St.sh (M := M13) (c56 g1 g2 g9 g16 g23 g30).2.1 hS_13
      refine tx_istore dL_law_519 (Nat.le_of_ble_eq_true rfl) ?_
      show TX X K_L_law 521 [some (aR (some 0)), some (aR (some 3)), some (aR (some 26)), some (aR (some 57)), some (aI x4), some (aI x131), some (aI x132), none] [] M14 fin
      refine tx_aload_n dL_law_521 rfl ?_
      refine tx_callV (As := []) (rest := []) vk_X7_thrown hS_14.l26 w960 ⟨by decide, by decide⟩ (Nat.le_of_ble_eq_true rfl) dL_law_522 (c57 g1 g2 g9 g16 g23 g30) ?_
      show TX X K_L_law 525 [some (aR (some 0)), some (aR (some 3)), some (aR (some 26)), some (aR (some 57)), some (aI x4), some (aI x131), some (aI x132), none] [aI x133] M15 fin
      have hS_15 : St M15 := St.sh (M := M14) (c57 g1 g2 g9 g16 g23 g30).2.1 hS_14
      refine tx_iload dL_law_525 rfl ?_
      refine tx_icmp_eq (tgt := 532) dL_law_527 rfl (fun g34 => ?_) (fun g34 => ?_)
      ·
        refine tx_iload dL_law_532 rfl ?_
        refine tx_if_ne (tgt := 549) dL_law_534 rfl (fun g35 => ?_) (fun g35 => ?_)
        ·
          refine tx_goto (tgt := 1103) dL_law_549 rfl ?_
          refine tx_iinc dL_law_1103 rfl ?_
          show TX X K_L_law 1106 [some (aR (some 0)), some (aR (some 3)), some (aR (some 26)), some (aR (some 57)), some (aI (x4 + 6)), some (aI x131), some (aI x132), none] [] M15 fin
          refine tx_goto (tgt := 23) dL_law_1106 rfl ?_
          exact (k58 g1 g2 g9 g16 g23 g30 g34 g35)
        ·
          refine tx_aload_n dL_law_537 rfl ?_
          refine tx_iconst (u := 0) dL_law_538 (by decide) ?_
          refine tx_lald hS_15.l57 (hS_15.b57 (b59 g1 g2 g9 g16 g23 g30 g34 g35)) dL_law_539 ?_
          refine tx_iload dL_law_540 rfl ?_
          refine tx_i2l dL_law_542 ?_
          refine tx_lcmp_eq (tgt := 549) dL_law_543 dL_law_544 rfl (fun g36 => ?_) (fun g36 => ?_)
          ·
            refine tx_goto (tgt := 1103) dL_law_549 rfl ?_
            refine tx_iinc dL_law_1103 rfl ?_
            show TX X K_L_law 1106 [some (aR (some 0)), some (aR (some 3)), some (aR (some 26)), some (aR (some 57)), some (aI (x4 + 6)), some (aI x131), some (aI x132), none] [] M15 fin
            refine tx_goto (tgt := 23) dL_law_1106 rfl ?_
            exact (k60 g1 g2 g9 g16 g23 g30 g34 g35 g36)
          ·
            refine tx_iconst (u := 0) dL_law_547 (by decide) ?_
            exact tx_zret rfl (Or.inl rfl) dL_law_548 (k61 g1 g2 g9 g16 g23 g30 g34 g35 g36)
      ·
        refine tx_iconst (u := 0) dL_law_530 (by decide) ?_
        exact tx_zret rfl (Or.inl rfl) dL_law_531 (k62 g1 g2 g9 g16 g23 g30 g34)
    by_cases g37 : ((X.2 x4.toNatClampNeg) &&& 15) = 5
    · have e9 : tsw 0 [112, 192, 304, 428, 496, 552, 565, 633, 689, 757, 824, 912, 980, 1035] 1103 ((X.2 x4.toNatClampNeg) &&& 15) = 552 := by rw [g37]; rfl
      rw [e9]
      refine tx_aload_n dL_law_552 rfl ?_
      refine tx_callV (As := []) (rest := []) vk_X6_place hS.l3 w260 ⟨by decide, by decide⟩ (Nat.le_of_ble_eq_true rfl) dL_law_553 (c63 g1 g2 g9 g16 g23 g30 g37) ?_
      show TX X K_L_law 556 [some (aR (some 0)), some (aR (some 3)), some (aR (some 26)), some (aR (some 57)), some (aI x4), none, none, none] [aI x138] M16 fin
      have hS_16 : St M16 := St.sh (M := M) (c63 g1 g2 g9 g16 g23 g30 g37).2.1 hS
      refine tx_aload_n dL_law_556 rfl ?_
      refine tx_callV (As := []) (rest := [aI x138]) vk_X7_place hS_16.l26 w1035 ⟨by decide, by decide⟩ (Nat.le_of_ble_eq_true rfl) dL_law_557 (c64 g1 g2 g9 g16 g23 g30 g37) ?_
      show TX X K_L_law 560 [some (aR (some 0)), some (aR (some 3)), some (aR (some 26)), some (aR (some 57)), some (aI x4), none, none, none] [aI x139, aI x138] M17 fin
      have hS_17 : St M17 := St.sh (M := M16) (c64 g1 g2 g9 g16 g23 g30 g37).2.1 hS_16
      refine tx_icmp_eq (tgt := 1103) dL_law_560 rfl (fun g40 => ?_) (fun g40 => ?_)
      ·
        refine tx_iinc dL_law_1103 rfl ?_
        show TX X K_L_law 1106 [some (aR (some 0)), some (aR (some 3)), some (aR (some 26)), some (aR (some 57)), some (aI (x4 + 6)), none, none, none] [] M17 fin
        refine tx_goto (tgt := 23) dL_law_1106 rfl ?_
        exact (k65 g1 g2 g9 g16 g23 g30 g37 g40)
      ·
        refine tx_iconst (u := 0) dL_law_563 (by decide) ?_
        exact tx_zret rfl (Or.inl rfl) dL_law_564 (k66 g1 g2 g9 g16 g23 g30 g37 g40)
    by_cases g41 : ((X.2 x4.toNatClampNeg) &&& 15) = 6
    · have e9 : tsw 0 [112, 192, 304, 428, 496, 552, 565, 633, 689, 757, 824, 912, 980, 1035] 1103 ((X.2 x4.toNatClampNeg) &&& 15) = 565 := by rw [g41]; rfl
      rw [e9]
      refine tx_aload_n dL_law_565 rfl ?_
      refine tx_aload_n dL_law_566 rfl ?_
      refine tx_iload dL_law_567 rfl ?_
      refine tx_iconst (u := 1) dL_law_569 (by decide) ?_
      refine tx_iadd dL_law_570 ?_
      refine tx_ro (b67 g1 g2 g9 g16 g23 g30 g37 g41) dL_law_571 ?_
      refine tx_aload_n dL_law_572 rfl ?_
      refine tx_iload dL_law_573 rfl ?_
      refine tx_iconst (u := 2) dL_law_575 (by decide) ?_
      refine tx_iadd dL_law_576 ?_
      refine tx_ro (b68 g1 g2 g9 g16 g23 g30 g37 g41) dL_law_577 ?_
      refine tx_aload_n dL_law_578 rfl ?_
      refine tx_callSH (As := [aR (some 3), aI (X.2 (x4 + 1).toNatClampNeg), aI (X.2 (x4 + 2).toNatClampNeg), aR (some 57)]) (rest := []) yh_L_height w572 ⟨by decide, by decide⟩ (Nat.le_of_ble_eq_true rfl) dL_law_579 (c69 g1 g2 g9 g16 g23 g30 g37 g41) ?_
      show TX X K_L_law 582 [some (aR (some 0)), some (aR (some 3)), some (aR (some 26)), some (aR (some 57)), some (aI x4), none, none, none] [aI x142] M18 fin
      have hS_18 : St M18 := (h70 g1 g2 g9 g16 g23 g30 g37 g41)
      refine tx_istore dL_law_582 (Nat.le_of_ble_eq_true rfl) ?_
      show TX X K_L_law 584 [some (aR (some 0)), some (aR (some 3)), some (aR (some 26)), some (aR (some 57)), some (aI x4), some (aI x142), none, none] [] M18 fin
      refine tx_aload_n dL_law_584 rfl ?_
      refine tx_aload_n dL_law_585 rfl ?_
      refine tx_iload dL_law_586 rfl ?_
      refine tx_iconst (u := 1) dL_law_588 (by decide) ?_
      refine tx_iadd dL_law_589 ?_
      refine tx_ro (b67 g1 g2 g9 g16 g23 g30 g37 g41) dL_law_590 ?_
      refine tx_aload_n dL_law_591 rfl ?_
      refine tx_iload dL_law_592 rfl ?_
      refine tx_iconst (u := 2) dL_law_594 (by decide) ?_
      refine tx_iadd dL_law_595 ?_
      refine tx_ro (b68 g1 g2 g9 g16 g23 g30 g37 g41) dL_law_596 ?_
      refine tx_callV (As := [aI (X.2 (x4 + 1).toNatClampNeg), aI (X.2 (x4 + 2).toNatClampNeg)]) (rest := []) vk_X7_height hS_18.l26 w1039 ⟨by decide, by decide⟩ (Nat.le_of_ble_eq_true rfl) dL_law_597 (c71 g1 g2 g9 g16 g23 g30 g37 g41) ?_
      show TX X K_L_law 600 [some (aR (some 0)), some (aR (some 3)), some (aR (some 26)), some (aR (some 57)), some (aI x4), some (aI x142), none, none] [aI x143] M19 fin
      have hS_19 : St M19 := St.sh (M := M18) (c71 g1 g2 g9 g16 g23 g30 g37 g41).2.1 hS_18
      refine tx_istore dL_law_600 (Nat.le_of_ble_eq_true rfl) ?_
      show TX X K_L_law 602 [some (aR (some 0)), some (aR (some 3)), some (aR (some 26)), some (aR (some 57)), some (aI x4), some (aI x142), some (aI x143), none] [] M19 fin
      refine tx_aload_n dL_law_602 rfl ?_
      refine tx_callV (As := []) (rest := []) vk_X7_thrown hS_19.l26 w960 ⟨by decide, by decide⟩ (Nat.le_of_ble_eq_true rfl) dL_law_603 (c72 g1 g2 g9 g16 g23 g30 g37 g41) ?_
      show TX X K_L_law 606 [some (aR (some 0)), some (aR (some 3)), some (aR (some 26)), some (aR (some 57)), some (aI x4), some (aI x142), some (aI x143), none] [aI x144] M20 fin
      have hS_20 : St M20 := St.sh (M := M19) (c72 g1 g2 g9 g16 g23 g30 g37 g41).2.1 hS_19
      refine tx_iload dL_law_606 rfl ?_
      refine tx_icmp_eq (tgt := 613) dL_law_608 rfl (fun g45 => ?_) (fun g45 => ?_)
      ·
        refine tx_iload dL_law_613 rfl ?_
        refine tx_if_ne (tgt := 630) dL_law_615 rfl (fun g46 => ?_) (fun g46 => ?_)
        ·
          refine tx_goto (tgt := 1103) dL_law_630 rfl ?_
          refine tx_iinc dL_law_1103 rfl ?_
          show TX X K_L_law 1106 [some (aR (some 0)), some (aR (some 3)), some (aR (some 26)), some (aR (some 57)), some (aI (x4 + 6)), some (aI x142), some (aI x143), none] [] M20 fin
          refine tx_goto (tgt := 23) dL_law_1106 rfl ?_
          exact (k73 g1 g2 g9 g16 g23 g30 g37 g41 g45 g46)
        ·
          refine tx_aload_n dL_law_618 rfl ?_
          refine tx_iconst (u := 0) dL_law_619 (by decide) ?_
          refine tx_lald hS_20.l57 (hS_20.b57 (b74 g1 g2 g9 g16 g23 g30 g37 g41 g45 g46)) dL_law_620 ?_
          refine tx_iload dL_law_621 rfl ?_
          refine tx_i2l dL_law_623 ?_
          refine tx_lcmp_eq (tgt := 630) dL_law_624 dL_law_625 rfl (fun g47 => ?_) (fun g47 => ?_)
          ·
            refine tx_goto (tgt := 1103) dL_law_630 rfl ?_
            refine tx_iinc dL_law_1103 rfl ?_
            show TX X K_L_law 1106 [some (aR (some 0)), some (aR (some 3)), some (aR (some 26)), some (aR (some 57)), some (aI (x4 + 6)), some (aI x142), some (aI x143), none] [] M20 fin
            refine tx_goto (tgt := 23) dL_law_1106 rfl ?_
            exact (k75 g1 g2 g9 g16 g23 g30 g37 g41 g45 g46 g47)
          ·
            refine tx_iconst (u := 0) dL_law_628 (by decide) ?_
            exact tx_zret rfl (Or.inl rfl) dL_law_629 (k76 g1 g2 g9 g16 g23 g30 g37 g41 g45 g46 g47)
      ·
        refine tx_iconst (u := 0) dL_law_611 (by decide) ?_
        exact tx_zret rfl (Or.inl rfl) dL_law_612 (k77 g1 g2 g9 g16 g23 g30 g37 g41 g45)
    by_cases g48 : ((X.2 x4.toNatClampNeg) &&& 15) = 7
    · have e9 : tsw 0 [112, 192, 304, 428, 496, 552, 565, 633, 689, 757, 824, 912, 980, 1035] 1103 ((X.2 x4.toNatClampNeg) &&& 15) = 633 := by rw [g48]; rfl
      rw [e9]
      refine tx_aload_n dL_law_633 rfl ?_
      refine tx_aload_n dL_law_634 rfl ?_
      refine tx_iload dL_law_635 rfl ?_
      refine tx_iconst (u := 1) dL_law_637 (by decide) ?_
      refine tx_iadd dL_law_638 ?_
      refine tx_ro (b78 g1 g2 g9 g16 g23 g30 g37 g41 g48) dL_law_639 ?_
      refine tx_aload_n dL_law_640 rfl ?_
      refine tx_callSH (As := [aR (some 3), aI (X.2 (x4 + 1).toNatClampNeg), aR (some 57)]) (rest := []) yh_L_analyse w581 ⟨by decide, by decide⟩ (Nat.le_of_ble_eq_true rfl) dL_law_641 (c79 g1 g2 g9 g16 g23 g30 g37 g41 g48) ?_
      show TX X K_L_law 644 [some (aR (some 0)), some (aR (some 3)), some (aR (some 26)), some (aR (some 57)), some (aI x4), none, none, none] [aI x149] M21 fin
      have hS_21 : St M21 := (h80 g1 g2 g9 g16 g23 g30 g37 g41 g48)
      refine tx_istore dL_law_644 (Nat.le_of_ble_eq_true rfl) ?_
      show TX X K_L_law 646 [some (aR (some 0)), some (aR (some 3)), some (aR (some 26)), some (aR (some 57)), some (aI x4), some (aI x149), none, none] [] M21 fin
      refine tx_aload_n dL_law_646 rfl ?_
      refine tx_aload_n dL_law_647 rfl ?_
      refine tx_iload dL_law_648 rfl ?_
      refine tx_iconst (u := 1) dL_law_650 (by decide) ?_
      refine tx_iadd dL_law_651 ?_
      refine tx_ro (b78 g1 g2 g9 g16 g23 g30 g37 g41 g48) dL_law_652 ?_
      refine tx_callV (As := [aI (X.2 (x4 + 1).toNatClampNeg)]) (rest := []) vk_X7_analyse hS_21.l26 w1043 ⟨by decide, by decide⟩ (Nat.le_of_ble_eq_true rfl) dL_law_653 (c81 g1 g2 g9 g16 g23 g30 g37 g41 g48) ?_
      show TX X K_L_law 656 [some (aR (some 0)), some (aR (some 3)), some (aR (some 26)), some (aR (some 57)), some (aI x4), some (aI x149), none, none] [aI x150] M22 fin
      have hS_22 : St M22 := St.sh (M := M21) (c81 g1 g2 g9 g16 g23 g30 g37 g41 g48).2.1 hS_21
      refine tx_istore dL_law_656 (Nat.le_of_ble_eq_true rfl) ?_
      show TX X K_L_law 658 [some (aR (some 0)), some (aR (some 3)), some (aR (some 26)), some (aR (some 57)), some (aI x4), some (aI x149), some (aI x150), none] [] M22 fin
      refine tx_aload_n dL_law_658 rfl ?_
      refine tx_callV (As := []) (rest := []) vk_X7_thrown hS_22.l26 w960 ⟨by decide, by decide⟩ (Nat.le_of_ble_eq_true rfl) dL_law_659 (c82 g1 g2 g9 g16 g23 g30 g37 g41 g48) ?_
      show TX X K_L_law 662 [some (aR (some 0)), some (aR (some 3)), some (aR (some 26)), some (aR (some 57)), some (aI x4), some (aI x149), some (aI x150), none] [aI x151] M23 fin
      have hS_23 : St M23 := St.sh (M := M22) (c82 g1 g2 g9 g16 g23 g30 g37 g41 g48).2.1 hS_22
      refine tx_iload dL_law_662 rfl ?_
      refine tx_icmp_eq (tgt := 669) dL_law_664 rfl (fun g52 => ?_) (fun g52 => ?_)
      ·
        refine tx_iload dL_law_669 rfl ?_
        refine tx_if_ne (tgt := 686) dL_law_671 rfl (fun g53 => ?_) (fun g53 => ?_)
        ·
          refine tx_goto (tgt := 1103) dL_law_686 rfl ?_
          refine tx_iinc dL_law_1103 rfl ?_
          show TX X K_L_law 1106 [some (aR (some 0)), some (aR (some 3)), some (aR (some 26)), some (aR (some 57)), some (aI (x4 + 6)), some (aI x149), some (aI x150), none] [] M23 fin
          refine tx_goto (tgt := 23) dL_law_1106 rfl ?_
          exact (k83 g1 g2 g9 g16 g23 g30 g37 g41 g48 g52 g53)
        ·
          refine tx_aload_n dL_law_674 rfl ?_
          refine tx_iconst (u := 0) dL_law_675 (by decide) ?_
          refine tx_lald hS_23.l57 (hS_23.b57 (b84 g1 g2 g9 g16 g23 g30 g37 g41 g48 g52 g53)) dL_law_676 ?_
          refine tx_iload dL_law_677 rfl ?_
          refine tx_i2l dL_law_679 ?_
          refine tx_lcmp_eq (tgt := 686) dL_law_680 dL_law_681 rfl (fun g54 => ?_) (fun g54 => ?_)
          ·
            refine tx_goto (tgt := 1103) dL_law_686 rfl ?_
            refine tx_iinc dL_law_1103 rfl ?_
            show TX X K_L_law 1106 [some (aR (some 0)), some (aR (some 3)), some (aR (some 26)), some (aR (some 57)), some (aI (x4 + 6)), some (aI x149), some (aI x150), none] [] M23 fin
            refine tx_goto (tgt := 23) dL_law_1106 rfl ?_
            exact (k85 g1 g2 g9 g16 g23 g30 g37 g41 g48 g52 g53 g54)
          ·
            refine tx_iconst (u := 0) dL_law_684 (by decide) ?_
            exact tx_zret rfl (Or.inl rfl) dL_law_685 (k86 g1 g2 g9 g16 g23 g30 g37 g41 g48 g52 g53 g54)
      ·
        refine tx_iconst (u := 0) dL_law_667 (by decide) ?_
        exact tx_zret rfl (Or.inl rfl) dL_law_668 (k87 g1 g2 g9 g16 g23 g30 g37 g41 g48 g52)
    by_cases g55 : ((X.2 x4.toNatClampNeg) &&& 15) = 8
    · have e9 : tsw 0 [112, 192, 304, 428, 496, 552, 565, 633, 689, 757, 824, 912, 980, 1035] 1103 ((X.2 x4.toNatClampNeg) &&& 15) = 689 := by rw [g55]; rfl
      rw [e9]
      refine tx_aload_n dL_law_689 rfl ?_
      refine tx_aload_n dL_law_690 rfl ?_
      refine tx_iload dL_law_691 rfl ?_
      refine tx_iconst (u := 1) dL_law_693 (by decide) ?_
      refine tx_iadd dL_law_694 ?_
      refine tx_ro (b88 g1 g2 g9 g16 g23 g30 g37 g41 g48 g55) dL_law_695 ?_
      refine tx_aload_n dL_law_696 rfl ?_
      refine tx_iload dL_law_697 rfl ?_
      refine tx_iconst (u := 2) dL_law_699 (by decide) ?_
      refine tx_iadd dL_law_700 ?_
      refine tx_ro (b89 g1 g2 g9 g16 g23 g30 g37 g41 g48 g55) dL_law_701 ?_
      refine tx_aload_n dL_law_702 rfl ?_
      refine tx_callSH (As := [aR (some 3), aI (X.2 (x4 + 1).toNatClampNeg), aI (X.2 (x4 + 2).toNatClampNeg), aR (some 57)]) (rest := []) yh_L_told w672 ⟨by decide, by decide⟩ (Nat.le_of_ble_eq_true rfl) dL_law_703 (c90 g1 g2 g9 g16 g23 g30 g37 g41 g48 g55) ?_
      show TX X K_L_law 706 [some (aR (some 0)), some (aR (some 3)), some (aR (some 26)), some (aR (some 57)), some (aI x4), none, none, none] [aI x156] M24 fin
      have hS_24 : St M24 := (h91 g1 g2 g9 g16 g23 g30 g37 g41 g48 g55)
      refine tx_istore dL_law_706 (Nat.le_of_ble_eq_true rfl) ?_
      show TX X K_L_law 708 [some (aR (some 0)), some (aR (some 3)), some (aR (some 26)), some (aR (some 57)), some (aI x4), some (aI x156), none, none] [] M24 fin
      refine tx_aload_n dL_law_708 rfl ?_
      refine tx_aload_n dL_law_709 rfl ?_
      refine tx_iload dL_law_710 rfl ?_
      refine tx_iconst (u := 1) dL_law_712 (by decide) ?_
      refine tx_iadd dL_law_713 ?_
      refine tx_ro (b88 g1 g2 g9 g16 g23 g30 g37 g41 g48 g55) dL_law_714 ?_
      refine tx_aload_n dL_law_715 rfl ?_
      refine tx_iload dL_law_716 rfl ?_
      refine tx_iconst (u := 2) dL_law_718 (by decide) ?_
      refine tx_iadd dL_law_719 ?_
      refine tx_ro (b89 g1 g2 g9 g16 g23 g30 g37 g41 g48 g55) dL_law_720 ?_
      refine tx_callV (As := [aI (X.2 (x4 + 1).toNatClampNeg), aI (X.2 (x4 + 2).toNatClampNeg)]) (rest := []) vk_X7_told hS_24.l26 w1092 ⟨by decide, by decide⟩ (Nat.le_of_ble_eq_true rfl) dL_law_721 (c92 g1 g2 g9 g16 g23 g30 g37 g41 g48 g55) ?_
      show TX X K_L_law 724 [some (aR (some 0)), some (aR (some 3)), some (aR (some 26)), some (aR (some 57)), some (aI x4), some (aI x156), none, none] [aI x157] M25 fin
      have hS_25 : St M25 := St.sh (M := M24) (c92 g1 g2 g9 g16 g23 g30 g37 g41 g48 g55).2.1 hS_24
      refine tx_istore dL_law_724 (Nat.le_of_ble_eq_true rfl) ?_
      show TX X K_L_law 726 [some (aR (some 0)), some (aR (some 3)), some (aR (some 26)), some (aR (some 57)), some (aI x4), some (aI x156), some (aI x157), none] [] M25 fin
      refine tx_aload_n dL_law_726 rfl ?_
      refine tx_callV (As := []) (rest := []) vk_X7_thrown hS_25.l26 w960 ⟨by decide, by decide⟩ (Nat.le_of_ble_eq_true rfl) dL_law_727 (c93 g1 g2 g9 g16 g23 g30 g37 g41 g48 g55) ?_
      show TX X K_L_law 730 [some (aR (some 0)), some (aR (some 3)), some (aR (some 26)), some (aR (some 57)), some (aI x4), some (aI x156), some (aI x157), none] [aI x158] M26 fin
      have hS_26 : St M26 := St.sh (M := M25) (c93 g1 g2 g9 g16 g23 g30 g37 g41 g48 g55).2.1 hS_25
      refine tx_iload dL_law_730 rfl ?_
      refine tx_icmp_eq (tgt := 737) dL_law_732 rfl (fun g59 => ?_) (fun g59 => ?_)
      ·
        refine tx_iload dL_law_737 rfl ?_
        refine tx_if_ne (tgt := 754) dL_law_739 rfl (fun g60 => ?_) (fun g60 => ?_)
        ·
          refine tx_goto (tgt := 1103) dL_law_754 rfl ?_
          refine tx_iinc dL_law_1103 rfl ?_
          show TX X K_L_law 1106 [some (aR (some 0)), some (aR (some 3)), some (aR (some 26)), some (aR (some 57)), some (aI (x4 + 6)), some (aI x156), some (aI x157), none] [] M26 fin
          refine tx_goto (tgt := 23) dL_law_1106 rfl ?_
          exact (k94 g1 g2 g9 g16 g23 g30 g37 g41 g48 g55 g59 g60)
        ·
          refine tx_aload_n dL_law_742 rfl ?_
          refine tx_iconst (u := 0) dL_law_743 (by decide) ?_
          refine tx_lald hS_26.l57 (hS_26.b57 (b95 g1 g2 g9 g16 g23 g30 g37 g41 g48 g55 g59 g60)) dL_law_744 ?_
          refine tx_iload dL_law_745 rfl ?_
          refine tx_i2l dL_law_747 ?_
          refine tx_lcmp_eq (tgt := 754) dL_law_748 dL_law_749 rfl (fun g61 => ?_) (fun g61 => ?_)
          ·
            refine tx_goto (tgt := 1103) dL_law_754 rfl ?_
            refine tx_iinc dL_law_1103 rfl ?_
            show TX X K_L_law 1106 [some (aR (some 0)), some (aR (some 3)), some (aR (some 26)), some (aR (some 57)), some (aI (x4 + 6)), some (aI x156), some (aI x157), none] [] M26 fin
            refine tx_goto (tgt := 23) dL_law_1106 rfl ?_
            exact (k96 g1 g2 g9 g16 g23 g30 g37 g41 g48 g55 g59 g60 g61)
          ·
            refine tx_iconst (u := 0) dL_law_752 (by decide) ?_
            exact tx_zret rfl (Or.inl rfl) dL_law_753 (k97 g1 g2 g9 g16 g23 g30 g37 g41 g48 g55 g59 g60 g61)
      ·
        refine tx_iconst (u := 0) dL_law_735 (by decide) ?_
        exact tx_zret rfl (Or.inl rfl) dL_law_736 (k98 g1 g2 g9 g16 g23 g30 g37 g41 g48 g55 g59)
    by_cases g62 : ((X.2 x4.toNatClampNeg) &&& 15) = 9
    · have e9 : tsw 0 [112, 192, 304, 428, 496, 552, 565, 633, 689, 757, 824, 912, 980, 1035] 1103 ((X.2 x4.toNatClampNeg) &&& 15) = 757 := by rw [g62]; rfl
      rw [e9]
      refine tx_aload_n dL_law_757 rfl ?_
      refine tx_aload_n dL_law_758 rfl ?_
      refine tx_iload dL_law_759 rfl ?_
      refine tx_iconst (u := 1) dL_law_761 (by decide) ?_
      refine tx_iadd dL_law_762 ?_
      refine tx_ro (b99 g1 g2 g9 g16 g23 g30 g37 g41 g48 g55 g62) dL_law_763 ?_
      refine tx_aload_n dL_law_764 rfl ?_
      refine tx_iload dL_law_765 rfl ?_
      refine tx_iconst (u := 2) dL_law_767 (by decide) ?_
      refine tx_iadd dL_law_768 ?_
      refine tx_ro (b100 g1 g2 g9 g16 g23 g30 g37 g41 g48 g55 g62) dL_law_769 ?_
      refine tx_aload_n dL_law_770 rfl ?_
      refine tx_callSH (As := [aR (some 3), aI (X.2 (x4 + 1).toNatClampNeg), aI (X.2 (x4 + 2).toNatClampNeg), aR (some 57)]) (rest := []) yh_L_bound w684 ⟨by decide, by decide⟩ (Nat.le_of_ble_eq_true rfl) dL_law_771 (c101 g1 g2 g9 g16 g23 g30 g37 g41 g48 g55 g62) ?_
      show TX X K_L_law 774 [some (aR (some 0)), some (aR (some 3)), some (aR (some 26)), some (aR (some 57)), some (aI x4), none, none, none] [aI x163] M27 fin
      have hS_27 : St M27 := (h102 g1 g2 g9 g16 g23 g30 g37 g41 g48 g55 g62)
      refine tx_istore dL_law_774 (Nat.le_of_ble_eq_true rfl) ?_
      show TX X K_L_law 776 [some (aR (some 0)), some (aR (some 3)), some (aR (some 26)), some (aR (some 57)), some (aI x4), some (aI x163), none, none] [] M27 fin
      refine tx_aload_n dL_law_776 rfl ?_
      refine tx_aload_n dL_law_777 rfl ?_
      refine tx_iload dL_law_778 rfl ?_
      refine tx_iconst (u := 1) dL_law_780 (by decide) ?_
      refine tx_iadd dL_law_781 ?_
      refine tx_ro (b99 g1 g2 g9 g16 g23 g30 g37 g41 g48 g55 g62) dL_law_782 ?_
      refine tx_aload_n dL_law_783 rfl ?_
      refine tx_iload dL_law_784 rfl ?_
      refine tx_iconst (u := 2) dL_law_786 (by decide) ?_
      refine tx_iadd dL_law_787 ?_
      refine tx_ro (b100 g1 g2 g9 g16 g23 g30 g37 g41 g48 g55 g62) dL_law_788 ?_
      refine tx_callV (As := [aI (X.2 (x4 + 1).toNatClampNeg), aI (X.2 (x4 + 2).toNatClampNeg)]) (rest := []) vk_X7_bound hS_27.l26 w1096 ⟨by decide, by decide⟩ (Nat.le_of_ble_eq_true rfl) dL_law_789 (c103 g1 g2 g9 g16 g23 g30 g37 g41 g48 g55 g62) ?_
      show TX X K_L_law 792 [some (aR (some 0)), some (aR (some 3)), some (aR (some 26)), some (aR (some 57)), some (aI x4), some (aI x163), none, none] [aJ x164] M28 fin
      have hS_28 : St M28 := St.sh (M := M27) (c103 g1 g2 g9 g16 g23 g30 g37 g41 g48 g55 g62).2.1 hS_27
      refine tx_lstore dL_law_792 (Nat.le_of_ble_eq_true rfl) ?_
      show TX X K_L_law 794 [some (aR (some 0)), some (aR (some 3)), some (aR (some 26)), some (aR (some 57)), some (aI x4), some (aI x163), some (aJ x164), none] [] M28 fin
      refine tx_aload_n dL_law_794 rfl ?_
      refine tx_callV (As := []) (rest := []) vk_X7_thrown hS_28.l26 w960 ⟨by decide, by decide⟩ (Nat.le_of_ble_eq_true rfl) dL_law_795 (c104 g1 g2 g9 g16 g23 g30 g37 g41 g48 g55 g62) ?_
      show TX X K_L_law 798 [some (aR (some 0)), some (aR (some 3)), some (aR (some 26)), some (aR (some 57)), some (aI x4), some (aI x163), some (aJ x164), none] [aI x165] M29 fin
      have hS_29 : St M29 := St.sh (M := M28) (c104 g1 g2 g9 g16 g23 g30 g37 g41 g48 g55 g62).2.1 hS_28
      refine tx_iload dL_law_798 rfl ?_
      refine tx_icmp_eq (tgt := 805) dL_law_800 rfl (fun g66 => ?_) (fun g66 => ?_)
      ·
        refine tx_iload dL_law_805 rfl ?_
        refine tx_if_ne (tgt := 821) dL_law_807 rfl (fun g67 => ?_) (fun g67 => ?_)
        ·
          refine tx_goto (tgt := 1103) dL_law_821 rfl ?_
          refine tx_iinc dL_law_1103 rfl ?_
          show TX X K_L_law 1106 [some (aR (some 0)), some (aR (some 3)), some (aR (some 26)), some (aR (some 57)), some (aI (x4 + 6)), some (aI x163), some (aJ x164), none] [] M29 fin
          refine tx_goto (tgt := 23) dL_law_1106 rfl ?_
          exact (k105 g1 g2 g9 g16 g23 g30 g37 g41 g48 g55 g62 g66 g67)
        ·
          refine tx_aload_n dL_law_810 rfl ?_
          refine tx_iconst (u := 0) dL_law_811 (by decide) ?_
          refine tx_lald hS_29.l57 (hS_29.b57 (b106 g1 g2 g9 g16 g23 g30 g37 g41 g48 g55 g62 g66 g67)) dL_law_812 ?_
          refine tx_lload dL_law_813 rfl ?_
          refine tx_lcmp_eq (tgt := 821) dL_law_815 dL_law_816 rfl (fun g68 => ?_) (fun g68 => ?_)
          ·
            refine tx_goto (tgt := 1103) dL_law_821 rfl ?_
            refine tx_iinc dL_law_1103 rfl ?_
            show TX X K_L_law 1106 [some (aR (some 0)), some (aR (some 3)), some (aR (some 26)), some (aR (some 57)), some (aI (x4 + 6)), some (aI x163), some (aJ x164), none] [] M29 fin
            refine tx_goto (tgt := 23) dL_law_1106 rfl ?_
            exact (k107 g1 g2 g9 g16 g23 g30 g37 g41 g48 g55 g62 g66 g67 g68)
          ·
            refine tx_iconst (u := 0) dL_law_819 (by decide) ?_
            exact tx_zret rfl (Or.inl rfl) dL_law_820 (k108 g1 g2 g9 g16 g23 g30 g37 g41 g48 g55 g62 g66 g67 g68)
      ·
        refine tx_iconst (u := 0) dL_law_803 (by decide) ?_
        exact tx_zret rfl (Or.inl rfl) dL_law_804 (k109 g1 g2 g9 g16 g23 g30 g37 g41 g48 g55 g62 g66)
    by_cases g69 : ((X.2 x4.toNatClampNeg) &&& 15) = 10
    · have e9 : tsw 0 [112, 192, 304, 428, 496, 552, 565, 633, 689, 757, 824, 912, 980, 1035] 1103 ((X.2 x4.toNatClampNeg) &&& 15) = 824 := by rw [g69]; rfl
      rw [e9]
      refine tx_aload_n dL_law_824 rfl ?_
      refine tx_aload_n dL_law_825 rfl ?_
      refine tx_iload dL_law_826 rfl ?_
      refine tx_iconst (u := 1) dL_law_828 (by decide) ?_
      refine tx_iadd dL_law_829 ?_
      refine tx_ro (b110 g1 g2 g9 g16 g23 g30 g37 g41 g48 g55 g62 g69) dL_law_830 ?_
      refine tx_i2l dL_law_831 ?_
      refine tx_bipush (u := 32) dL_law_832 (by decide) ?_
      refine tx_lshl dL_law_834 ?_
      refine tx_aload_n dL_law_835 rfl ?_
      refine tx_iload dL_law_836 rfl ?_
      refine tx_iconst (u := 2) dL_law_838 (by decide) ?_
      refine tx_iadd dL_law_839 ?_
      refine tx_ro (b111 g1 g2 g9 g16 g23 g30 g37 g41 g48 g55 g62 g69) dL_law_840 ?_
      refine tx_i2l dL_law_841 ?_
      refine tx_ldc2 dL_law_842 w1144 ?_
      refine tx_land dL_law_845 ?_
      refine tx_lor dL_law_846 ?_
      refine tx_aload_n dL_law_847 rfl ?_
      refine tx_callSH (As := [aR (some 3), aJ ((((X.2 (x4 + 1).toNatClampNeg : Int32).toInt64) <<< ((32 : Int32).toInt64 &&& 63)) ||| (((X.2 (x4 + 2).toNatClampNeg : Int32).toInt64) &&& 4294967295)), aR (some 57)]) (rest := []) yh_L_argument w697 ⟨by decide, by decide⟩ (Nat.le_of_ble_eq_true rfl) dL_law_848 (c112 g1 g2 g9 g16 g23 g30 g37 g41 g48 g55 g62 g69) ?_
      show TX X K_L_law 851 [some (aR (some 0)), some (aR (some 3)), some (aR (some 26)), some (aR (some 57)), some (aI x4), none, none, none] [aI x170] M30 fin
      have hS_30 : St M30 := (h113 g1 g2 g9 g16 g23 g30 g37 g41 g48 g55 g62 g69)
      refine tx_istore dL_law_851 (Nat.le_of_ble_eq_true rfl) ?_
      show TX X K_L_law 853 [some (aR (some 0)), some (aR (some 3)), some (aR (some 26)), some (aR (some 57)), some (aI x4), some (aI x170), none, none] [] M30 fin
      refine tx_aload_n dL_law_853 rfl ?_
      refine tx_aload_n dL_law_854 rfl ?_
      refine tx_iload dL_law_855 rfl ?_
      refine tx_iconst (u := 1) dL_law_857 (by decide) ?_
      refine tx_iadd dL_law_858 ?_
      refine tx_ro (b110 g1 g2 g9 g16 g23 g30 g37 g41 g48 g55 g62 g69) dL_law_859 ?_
      refine tx_i2l dL_law_860 ?_
      refine tx_bipush (u := 32) dL_law_861 (by decide) ?_
      refine tx_lshl dL_law_863 ?_
      refine tx_aload_n dL_law_864 rfl ?_
      refine tx_iload dL_law_865 rfl ?_
      refine tx_iconst (u := 2) dL_law_867 (by decide) ?_
      refine tx_iadd dL_law_868 ?_
      refine tx_ro (b111 g1 g2 g9 g16 g23 g30 g37 g41 g48 g55 g62 g69) dL_law_869 ?_
      refine tx_i2l dL_law_870 ?_
      refine tx_ldc2 dL_law_871 w1144 ?_
      refine tx_land dL_law_874 ?_
      refine tx_lor dL_law_875 ?_
      refine tx_callV (As := [aJ ((((X.2 (x4 + 1).toNatClampNeg : Int32).toInt64) <<< ((32 : Int32).toInt64 &&& 63)) ||| (((X.2 (x4 + 2).toNatClampNeg : Int32).toInt64) &&& 4294967295))]) (rest := []) vk_X7_argument hS_30.l26 w1100 ⟨by decide, by decide⟩ (Nat.le_of_ble_eq_true rfl) dL_law_876 (c114 g1 g2 g9 g16 g23 g30 g37 g41 g48 g55 g62 g69) ?_
      show TX X K_L_law 879 [some (aR (some 0)), some (aR (some 3)), some (aR (some 26)), some (aR (some 57)), some (aI x4), some (aI x170), none, none] [aI x171] M31 fin
      have hS_31 : St M31 := St.sh (M := M30) (c114 g1 g2 g9 g16 g23 g30 g37 g41 g48 g55 g62 g69).2.1 hS_30
      refine tx_istore dL_law_879 (Nat.le_of_ble_eq_true rfl) ?_
      show TX X K_L_law 881 [some (aR (some 0)), some (aR (some 3)), some (aR (some 26)), some (aR (some 57)), some (aI x4), some (aI x170), some (aI x171), none] [] M31 fin
      refine tx_aload_n dL_law_881 rfl ?_
      refine tx_callV (As := []) (rest := []) vk_X7_thrown hS_31.l26 w960 ⟨by decide, by decide⟩ (Nat.le_of_ble_eq_true rfl) dL_law_882 (c115 g1 g2 g9 g16 g23 g30 g37 g41 g48 g55 g62 g69) ?_
      show TX X K_L_law 885 [some (aR (some 0)), some (aR (some 3)), some (aR (some 26)), some (aR (some 57)), some (aI x4), some (aI x170), some (aI x171), none] [aI x172] M32 fin
      have hS_32 : St M32 := St.sh (M := M31) (c115 g1 g2 g9 g16 g23 g30 g37 g41 g48 g55 g62 g69).2.1 hS_31
      refine tx_iload dL_law_885 rfl ?_
      refine tx_icmp_eq (tgt := 892) dL_law_887 rfl (fun g73 => ?_) (fun g73 => ?_)
      ·
        refine tx_iload dL_law_892 rfl ?_
        refine tx_if_ne (tgt := 909) dL_law_894 rfl (fun g74 => ?_) (fun g74 => ?_)
        ·
          refine tx_goto (tgt := 1103) dL_law_909 rfl ?_
          refine tx_iinc dL_law_1103 rfl ?_
          show TX X K_L_law 1106 [some (aR (some 0)), some (aR (some 3)), some (aR (some 26)), some (aR (some 57)), some (aI (x4 + 6)), some (aI x170), some (aI x171), none] [] M32 fin
          refine tx_goto (tgt := 23) dL_law_1106 rfl ?_
          exact (k116 g1 g2 g9 g16 g23 g30 g37 g41 g48 g55 g62 g69 g73 g74)
        ·
          refine tx_aload_n dL_law_897 rfl ?_
          refine tx_iconst (u := 0) dL_law_898 (by decide) ?_
          refine tx_lald hS_32.l57 (hS_32.b57 (b117 g1 g2 g9 g16 g23 g30 g37 g41 g48 g55 g62 g69 g73 g74)) dL_law_899 ?_
          refine tx_iload dL_law_900 rfl ?_
          refine tx_i2l dL_law_902 ?_
          refine tx_lcmp_eq (tgt := 909) dL_law_903 dL_law_904 rfl (fun g75 => ?_) (fun g75 => ?_)
          ·
            refine tx_goto (tgt := 1103) dL_law_909 rfl ?_
            refine tx_iinc dL_law_1103 rfl ?_
            show TX X K_L_law 1106 [some (aR (some 0)), some (aR (some 3)), some (aR (some 26)), some (aR (some 57)), some (aI (x4 + 6)), some (aI x170), some (aI x171), none] [] M32 fin
            refine tx_goto (tgt := 23) dL_law_1106 rfl ?_
            exact (k118 g1 g2 g9 g16 g23 g30 g37 g41 g48 g55 g62 g69 g73 g74 g75)
          ·
            refine tx_iconst (u := 0) dL_law_907 (by decide) ?_
            exact tx_zret rfl (Or.inl rfl) dL_law_908 (k119 g1 g2 g9 g16 g23 g30 g37 g41 g48 g55 g62 g69 g73 g74 g75)
      ·
        refine tx_iconst (u := 0) dL_law_890 (by decide) ?_
        exact tx_zret rfl (Or.inl rfl) dL_law_891 (k120 g1 g2 g9 g16 g23 g30 g37 g41 g48 g55 g62 g69 g73)
    by_cases g76 : ((X.2 x4.toNatClampNeg) &&& 15) = 11
    · have e9 : tsw 0 [112, 192, 304, 428, 496, 552, 565, 633, 689, 757, 824, 912, 980, 1035] 1103 ((X.2 x4.toNatClampNeg) &&& 15) = 912 := by rw [g76]; rfl
      rw [e9]
      refine tx_aload_n dL_law_912 rfl ?_
      refine tx_aload_n dL_law_913 rfl ?_
      refine tx_iload dL_law_914 rfl ?_
      refine tx_iconst (u := 1) dL_law_916 (by decide) ?_
      refine tx_iadd dL_law_917 ?_
      refine tx_ro (b121 g1 g2 g9 g16 g23 g30 g37 g41 g48 g55 g62 g69 g76) dL_law_918 ?_
      refine tx_aload_n dL_law_919 rfl ?_
      refine tx_iload dL_law_920 rfl ?_
      refine tx_iconst (u := 2) dL_law_922 (by decide) ?_
      refine tx_iadd dL_law_923 ?_
      refine tx_ro (b122 g1 g2 g9 g16 g23 g30 g37 g41 g48 g55 g62 g69 g76) dL_law_924 ?_
      refine tx_aload_n dL_law_925 rfl ?_
      refine tx_callSH (As := [aR (some 3), aI (X.2 (x4 + 1).toNatClampNeg), aI (X.2 (x4 + 2).toNatClampNeg), aR (some 57)]) (rest := []) yh_L_run w721 ⟨by decide, by decide⟩ (Nat.le_of_ble_eq_true rfl) dL_law_926 (c123 g1 g2 g9 g16 g23 g30 g37 g41 g48 g55 g62 g69 g76) ?_
      show TX X K_L_law 929 [some (aR (some 0)), some (aR (some 3)), some (aR (some 26)), some (aR (some 57)), some (aI x4), none, none, none] [aI x177] M33 fin
      have hS_33 : St M33 := (h124 g1 g2 g9 g16 g23 g30 g37 g41 g48 g55 g62 g69 g76)
      refine tx_istore dL_law_929 (Nat.le_of_ble_eq_true rfl) ?_
      show TX X K_L_law 931 [some (aR (some 0)), some (aR (some 3)), some (aR (some 26)), some (aR (some 57)), some (aI x4), some (aI x177), none, none] [] M33 fin
      refine tx_aload_n dL_law_931 rfl ?_
      refine tx_aload_n dL_law_932 rfl ?_
      refine tx_iload dL_law_933 rfl ?_
      refine tx_iconst (u := 1) dL_law_935 (by decide) ?_
      refine tx_iadd dL_law_936 ?_
      refine tx_ro (b121 g1 g2 g9 g16 g23 g30 g37 g41 g48 g55 g62 g69 g76) dL_law_937 ?_
      refine tx_aload_n dL_law_938 rfl ?_
      refine tx_iload dL_law_939 rfl ?_
      refine tx_iconst (u := 2) dL_law_941 (by decide) ?_
      refine tx_iadd dL_law_942 ?_
      refine tx_ro (b122 g1 g2 g9 g16 g23 g30 g37 g41 g48 g55 g62 g69 g76) dL_law_943 ?_
      refine tx_callV (As := [aI (X.2 (x4 + 1).toNatClampNeg), aI (X.2 (x4 + 2).toNatClampNeg)]) (rest := []) vk_X7_run hS_33.l26 w1104 ⟨by decide, by decide⟩ (Nat.le_of_ble_eq_true rfl) dL_law_944 (c125 g1 g2 g9 g16 g23 g30 g37 g41 g48 g55 g62 g69 g76) ?_
      show TX X K_L_law 947 [some (aR (some 0)), some (aR (some 3)), some (aR (some 26)), some (aR (some 57)), some (aI x4), some (aI x177), none, none] [aI x178] M34 fin
      have hS_34 : St M34 := St.sh (M := M33) (c125 g1 g2 g9 g16 g23 g30 g37 g41 g48 g55 g62 g69 g76).2.1 hS_33
      refine tx_istore dL_law_947 (Nat.le_of_ble_eq_true rfl) ?_
      show TX X K_L_law 949 [some (aR (some 0)), some (aR (some 3)), some (aR (some 26)), some (aR (some 57)), some (aI x4), some (aI x177), some (aI x178), none] [] M34 fin
      refine tx_aload_n dL_law_949 rfl ?_
      refine tx_callV (As := []) (rest := []) vk_X7_thrown hS_34.l26 w960 ⟨by decide, by decide⟩ (Nat.le_of_ble_eq_true rfl) dL_law_950 (c126 g1 g2 g9 g16 g23 g30 g37 g41 g48 g55 g62 g69 g76) ?_
      show TX X K_L_law 953 [some (aR (some 0)), some (aR (some 3)), some (aR (some 26)), some (aR (some 57)), some (aI x4), some (aI x177), some (aI x178), none] [aI x179] M35 fin
      have hS_35 : St M35 := St.sh (M := M34) (c126 g1 g2 g9 g16 g23 g30 g37 g41 g48 g55 g62 g69 g76).2.1 hS_34
      refine tx_iload dL_law_953 rfl ?_
      refine tx_icmp_eq (tgt := 960) dL_law_955 rfl (fun g80 => ?_) (fun g80 => ?_)
      ·
        refine tx_iload dL_law_960 rfl ?_
        refine tx_if_ne (tgt := 977) dL_law_962 rfl (fun g81 => ?_) (fun g81 => ?_)
        ·
          refine tx_goto (tgt := 1103) dL_law_977 rfl ?_
          refine tx_iinc dL_law_1103 rfl ?_
          show TX X K_L_law 1106 [some (aR (some 0)), some (aR (some 3)), some (aR (some 26)), some (aR (some 57)), some (aI (x4 + 6)), some (aI x177), some (aI x178), none] [] M35 fin
          refine tx_goto (tgt := 23) dL_law_1106 rfl ?_
          exact (k127 g1 g2 g9 g16 g23 g30 g37 g41 g48 g55 g62 g69 g76 g80 g81)
        ·
          refine tx_aload_n dL_law_965 rfl ?_
          refine tx_iconst (u := 0) dL_law_966 (by decide) ?_
          refine tx_lald hS_35.l57 (hS_35.b57 (b128 g1 g2 g9 g16 g23 g30 g37 g41 g48 g55 g62 g69 g76 g80 g81)) dL_law_967 ?_
          refine tx_iload dL_law_968 rfl ?_
          refine tx_i2l dL_law_970 ?_
          refine tx_lcmp_eq (tgt := 977) dL_law_971 dL_law_972 rfl (fun g82 => ?_) (fun g82 => ?_)
          ·
            refine tx_goto (tgt := 1103) dL_law_977 rfl ?_
            refine tx_iinc dL_law_1103 rfl ?_
            show TX X K_L_law 1106 [some (aR (some 0)), some (aR (some 3)), some (aR (some 26)), some (aR (some 57)), some (aI (x4 + 6)), some (aI x177), some (aI x178), none] [] M35 fin
            refine tx_goto (tgt := 23) dL_law_1106 rfl ?_
            exact (k129 g1 g2 g9 g16 g23 g30 g37 g41 g48 g55 g62 g69 g76 g80 g81 g82)
          ·
            refine tx_iconst (u := 0) dL_law_975 (by decide) ?_
            exact tx_zret rfl (Or.inl rfl) dL_law_976 (k130 g1 g2 g9 g16 g23 g30 g37 g41 g48 g55 g62 g69 g76 g80 g81 g82)
      ·
        refine tx_iconst (u := 0) dL_law_958 (by decide) ?_
        exact tx_zret rfl (Or.inl rfl) dL_law_959 (k131 g1 g2 g9 g16 g23 g30 g37 g41 g48 g55 g62 g69 g76 g80)
    by_cases g83 : ((X.2 x4.toNatClampNeg) &&& 15) = 12
    · have e9 : tsw 0 [112, 192, 304, 428, 496, 552, 565, 633, 689, 757, 824, 912, 980, 1035] 1103 ((X.2 x4.toNatClampNeg) &&& 15) = 980 := by rw [g83]; rfl
      rw [e9]
      refine tx_aload_n dL_law_980 rfl ?_
      refine tx_aload_n dL_law_981 rfl ?_
      refine tx_iload dL_law_982 rfl ?_
      refine tx_iconst (u := 1) dL_law_984 (by decide) ?_
      refine tx_iadd dL_law_985 ?_
      refine tx_ro (b132 g1 g2 g9 g16 g23 g30 g37 g41 g48 g55 g62 g69 g76 g83) dL_law_986 ?_
      refine tx_aload_n dL_law_987 rfl ?_
      refine tx_callSH (As := [aR (some 3), aI (X.2 (x4 + 1).toNatClampNeg), aR (some 57)]) (rest := []) yh_L_ran w805 ⟨by decide, by decide⟩ (Nat.le_of_ble_eq_true rfl) dL_law_988 (c133 g1 g2 g9 g16 g23 g30 g37 g41 g48 g55 g62 g69 g76 g83) ?_
      show TX X K_L_law 991 [some (aR (some 0)), some (aR (some 3)), some (aR (some 26)), some (aR (some 57)), some (aI x4), none, none, none] [aI x184] M36 fin
      have hS_36 : St M36 := (h134 g1 g2 g9 g16 g23 g30 g37 g41 g48 g55 g62 g69 g76 g83)
      refine tx_istore dL_law_991 (Nat.le_of_ble_eq_true rfl) ?_
      show TX X K_L_law 993 [some (aR (some 0)), some (aR (some 3)), some (aR (some 26)), some (aR (some 57)), some (aI x4), some (aI x184), none, none] [] M36 fin
      refine tx_aload_n dL_law_993 rfl ?_
      refine tx_aload_n dL_law_994 rfl ?_
      refine tx_iload dL_law_995 rfl ?_
      refine tx_iconst (u := 1) dL_law_997 (by decide) ?_
      refine tx_iadd dL_law_998 ?_
      refine tx_ro (b132 g1 g2 g9 g16 g23 g30 g37 g41 g48 g55 g62 g69 g76 g83) dL_law_999 ?_
      refine tx_callV (As := [aI (X.2 (x4 + 1).toNatClampNeg)]) (rest := []) vk_X7_ran hS_36.l26 w1136 ⟨by decide, by decide⟩ (Nat.le_of_ble_eq_true rfl) dL_law_1000 (c135 g1 g2 g9 g16 g23 g30 g37 g41 g48 g55 g62 g69 g76 g83) ?_
      show TX X K_L_law 1003 [some (aR (some 0)), some (aR (some 3)), some (aR (some 26)), some (aR (some 57)), some (aI x4), some (aI x184), none, none] [aJ x185] M37 fin
      have hS_37 : St M37 := St.sh (M := M36) (c135 g1 g2 g9 g16 g23 g30 g37 g41 g48 g55 g62 g69 g76 g83).2.1 hS_36
      refine tx_lstore dL_law_1003 (Nat.le_of_ble_eq_true rfl) ?_
      show TX X K_L_law 1005 [some (aR (some 0)), some (aR (some 3)), some (aR (some 26)), some (aR (some 57)), some (aI x4), some (aI x184), some (aJ x185), none] [] M37 fin
      refine tx_aload_n dL_law_1005 rfl ?_
      refine tx_callV (As := []) (rest := []) vk_X7_thrown hS_37.l26 w960 ⟨by decide, by decide⟩ (Nat.le_of_ble_eq_true rfl) dL_law_1006 (c136 g1 g2 g9 g16 g23 g30 g37 g41 g48 g55 g62 g69 g76 g83) ?_
      show TX X K_L_law 1009 [some (aR (some 0)), some (aR (some 3)), some (aR (some 26)), some (aR (some 57)), some (aI x4), some (aI x184), some (aJ x185), none] [aI x186] M38 fin
      have hS_38 : St M38 := St.sh (M := M37) (c136 g1 g2 g9 g16 g23 g30 g37 g41 g48 g55 g62 g69 g76 g83).2.1 hS_37
      refine tx_iload dL_law_1009 rfl ?_
      refine tx_icmp_eq (tgt := 1016) dL_law_1011 rfl (fun g87 => ?_) (fun g87 => ?_)
      ·
        refine tx_iload dL_law_1016 rfl ?_
        refine tx_if_ne (tgt := 1032) dL_law_1018 rfl (fun g88 => ?_) (fun g88 => ?_)
        ·
          refine tx_goto (tgt := 1103) dL_law_1032 rfl ?_
          refine tx_iinc dL_law_1103 rfl ?_
          show TX X K_L_law 1106 [some (aR (some 0)), some (aR (some 3)), some (aR (some 26)), some (aR (some 57)), some (aI (x4 + 6)), some (aI x184), some (aJ x185), none] [] M38 fin
          refine tx_goto (tgt := 23) dL_law_1106 rfl ?_
          exact (k137 g1 g2 g9 g16 g23 g30 g37 g41 g48 g55 g62 g69 g76 g83 g87 g88)
        ·
          refine tx_aload_n dL_law_1021 rfl ?_
          refine tx_iconst (u := 0) dL_law_1022 (by decide) ?_
          refine tx_lald hS_38.l57 (hS_38.b57 (b138 g1 g2 g9 g16 g23 g30 g37 g41 g48 g55 g62 g69 g76 g83 g87 g88)) dL_law_1023 ?_
          refine tx_lload dL_law_1024 rfl ?_
          refine tx_lcmp_eq (tgt := 1032) dL_law_1026 dL_law_1027 rfl (fun g89 => ?_) (fun g89 => ?_)
          ·
            refine tx_goto (tgt := 1103) dL_law_1032 rfl ?_
            refine tx_iinc dL_law_1103 rfl ?_
            show TX X K_L_law 1106 [some (aR (some 0)), some (aR (some 3)), some (aR (some 26)), some (aR (some 57)), some (aI (x4 + 6)), some (aI x184), some (aJ x185), none] [] M38 fin
            refine tx_goto (tgt := 23) dL_law_1106 rfl ?_
            exact (k139 g1 g2 g9 g16 g23 g30 g37 g41 g48 g55 g62 g69 g76 g83 g87 g88 g89)
          ·
            refine tx_iconst (u := 0) dL_law_1030 (by decide) ?_
            exact tx_zret rfl (Or.inl rfl) dL_law_1031 (k140 g1 g2 g9 g16 g23 g30 g37 g41 g48 g55 g62 g69 g76 g83 g87 g88 g89)
      ·
        refine tx_iconst (u := 0) dL_law_1014 (by decide) ?_
        exact tx_zret rfl (Or.inl rfl) dL_law_1015 (k141 g1 g2 g9 g16 g23 g30 g37 g41 g48 g55 g62 g69 g76 g83 g87)
    by_cases g90 : ((X.2 x4.toNatClampNeg) &&& 15) = 13
    · have e9 : tsw 0 [112, 192, 304, 428, 496, 552, 565, 633, 689, 757, 824, 912, 980, 1035] 1103 ((X.2 x4.toNatClampNeg) &&& 15) = 1035 := by rw [g90]; rfl
      rw [e9]
      refine tx_aload_n dL_law_1035 rfl ?_
      refine tx_aload_n dL_law_1036 rfl ?_
      refine tx_iload dL_law_1037 rfl ?_
      refine tx_iconst (u := 1) dL_law_1039 (by decide) ?_
      refine tx_iadd dL_law_1040 ?_
      refine tx_ro (b142 g1 g2 g9 g16 g23 g30 g37 g41 g48 g55 g62 g69 g76 g83 g90) dL_law_1041 ?_
      refine tx_aload_n dL_law_1042 rfl ?_
      refine tx_iload dL_law_1043 rfl ?_
      refine tx_iconst (u := 2) dL_law_1045 (by decide) ?_
      refine tx_iadd dL_law_1046 ?_
      refine tx_ro (b143 g1 g2 g9 g16 g23 g30 g37 g41 g48 g55 g62 g69 g76 g83 g90) dL_law_1047 ?_
      refine tx_aload_n dL_law_1048 rfl ?_
      refine tx_callSH (As := [aR (some 3), aI (X.2 (x4 + 1).toNatClampNeg), aI (X.2 (x4 + 2).toNatClampNeg), aR (some 57)]) (rest := []) yh_L_about w817 ⟨by decide, by decide⟩ (Nat.le_of_ble_eq_true rfl) dL_law_1049 (c144 g1 g2 g9 g16 g23 g30 g37 g41 g48 g55 g62 g69 g76 g83 g90) ?_
      show TX X K_L_law 1052 [some (aR (some 0)), some (aR (some 3)), some (aR (some 26)), some (aR (some 57)), some (aI x4), none, none, none] [aI x191] M39 fin
      have hS_39 : St M39 := (h145 g1 g2 g9 g16 g23 g30 g37 g41 g48 g55 g62 g69 g76 g83 g90)
      refine tx_istore dL_law_1052 (Nat.le_of_ble_eq_true rfl) ?_
      show TX X K_L_law 1054 [some (aR (some 0)), some (aR (some 3)), some (aR (some 26)), some (aR (some 57)), some (aI x4), some (aI x191), none, none] [] M39 fin
      refine tx_aload_n dL_law_1054 rfl ?_
      refine tx_aload_n dL_law_1055 rfl ?_
      refine tx_iload dL_law_1056 rfl ?_
      refine tx_iconst (u := 1) dL_law_1058 (by decide) ?_
      refine tx_iadd dL_law_1059 ?_
      refine tx_ro (b142 g1 g2 g9 g16 g23 g30 g37 g41 g48 g55 g62 g69 g76 g83 g90) dL_law_1060 ?_
      refine tx_aload_n dL_law_1061 rfl ?_
      refine tx_iload dL_law_1062 rfl ?_
      refine tx_iconst (u := 2) dL_law_1064 (by decide) ?_
      refine tx_iadd dL_law_1065 ?_
      refine tx_ro (b143 g1 g2 g9 g16 g23 g30 g37 g41 g48 g55 g62 g69 g76 g83 g90) dL_law_1066 ?_
      refine tx_callV (As := [aI (X.2 (x4 + 1).toNatClampNeg), aI (X.2 (x4 + 2).toNatClampNeg)]) (rest := []) vk_X7_about hS_39.l26 w1140 ⟨by decide, by decide⟩ (Nat.le_of_ble_eq_true rfl) dL_law_1067 (c146 g1 g2 g9 g16 g23 g30 g37 g41 g48 g55 g62 g69 g76 g83 g90) ?_
      show TX X K_L_law 1070 [some (aR (some 0)), some (aR (some 3)), some (aR (some 26)), some (aR (some 57)), some (aI x4), some (aI x191), none, none] [aI x192] M40 fin
      have hS_40 : St M40 := St.sh (M := M39) (c146 g1 g2 g9 g16 g23 g30 g37 g41 g48 g55 g62 g69 g76 g83 g90).2.1 hS_39
      refine tx_istore dL_law_1070 (Nat.le_of_ble_eq_true rfl) ?_
      show TX X K_L_law 1072 [some (aR (some 0)), some (aR (some 3)), some (aR (some 26)), some (aR (some 57)), some (aI x4), some (aI x191), some (aI x192), none] [] M40 fin
      refine tx_aload_n dL_law_1072 rfl ?_
      refine tx_callV (As := []) (rest := []) vk_X7_thrown hS_40.l26 w960 ⟨by decide, by decide⟩ (Nat.le_of_ble_eq_true rfl) dL_law_1073 (c147 g1 g2 g9 g16 g23 g30 g37 g41 g48 g55 g62 g69 g76 g83 g90) ?_
      show TX X K_L_law 1076 [some (aR (some 0)), some (aR (some 3)), some (aR (some 26)), some (aR (some 57)), some (aI x4), some (aI x191), some (aI x192), none] [aI x193] M41 fin
      have hS_41 : St M41 := St.sh (M := M40) (c147 g1 g2 g9 g16 g23 g30 g37 g41 g48 g55 g62 g69 g76 g83 g90).2.1 hS_40
      refine tx_iload dL_law_1076 rfl ?_
      refine tx_icmp_eq (tgt := 1083) dL_law_1078 rfl (fun g94 => ?_) (fun g94 => ?_)
      ·
        refine tx_iload dL_law_1083 rfl ?_
        refine tx_if_ne (tgt := 1100) dL_law_1085 rfl (fun g95 => ?_) (fun g95 => ?_)
        ·
          refine tx_goto (tgt := 1103) dL_law_1100 rfl ?_
          refine tx_iinc dL_law_1103 rfl ?_
          show TX X K_L_law 1106 [some (aR (some 0)), some (aR (some 3)), some (aR (some 26)), some (aR (some 57)), some (aI (x4 + 6)), some (aI x191), some (aI x192), none] [] M41 fin
          refine tx_goto (tgt := 23) dL_law_1106 rfl ?_
          exact (k148 g1 g2 g9 g16 g23 g30 g37 g41 g48 g55 g62 g69 g76 g83 g90 g94 g95)
        ·
          refine tx_aload_n dL_law_1088 rfl ?_
          refine tx_iconst (u := 0) dL_law_1089 (by decide) ?_
          refine tx_lald hS_41.l57 (hS_41.b57 (b149 g1 g2 g9 g16 g23 g30 g37 g41 g48 g55 g62 g69 g76 g83 g90 g94 g95)) dL_law_1090 ?_
          refine tx_iload dL_law_1091 rfl ?_
          refine tx_i2l dL_law_1093 ?_
          refine tx_lcmp_eq (tgt := 1100) dL_law_1094 dL_law_1095 rfl (fun g96 => ?_) (fun g96 => ?_)
          ·
            refine tx_goto (tgt := 1103) dL_law_1100 rfl ?_
            refine tx_iinc dL_law_1103 rfl ?_
            show TX X K_L_law 1106 [some (aR (some 0)), some (aR (some 3)), some (aR (some 26)), some (aR (some 57)), some (aI (x4 + 6)), some (aI x191), some (aI x192), none] [] M41 fin
            refine tx_goto (tgt := 23) dL_law_1106 rfl ?_
            exact (k150 g1 g2 g9 g16 g23 g30 g37 g41 g48 g55 g62 g69 g76 g83 g90 g94 g95 g96)
          ·
            refine tx_iconst (u := 0) dL_law_1098 (by decide) ?_
            exact tx_zret rfl (Or.inl rfl) dL_law_1099 (k151 g1 g2 g9 g16 g23 g30 g37 g41 g48 g55 g62 g69 g76 g83 g90 g94 g95 g96)
      ·
        refine tx_iconst (u := 0) dL_law_1081 (by decide) ?_
        exact tx_zret rfl (Or.inl rfl) dL_law_1082 (k152 g1 g2 g9 g16 g23 g30 g37 g41 g48 g55 g62 g69 g76 g83 g90 g94)
    have e9 : tsw 0 [112, 192, 304, 428, 496, 552, 565, 633, 689, 757, 824, 912, 980, 1035] 1103 ((X.2 x4.toNatClampNeg) &&& 15) = 1103 := tsw_out [0, 1, 2, 3, 4, 5, 6, 7, 8, 9, 10, 11, 12, 13] (by decide) (by
        simp only [List.mem_cons, List.not_mem_nil, or_false, forall_eq_or_imp, forall_eq]
        skip
        exact ⟨g2, g9, g16, g23, g30, g37, g41, g48, g55, g62, g69, g76, g83, g90⟩)
    rw [e9]
    refine tx_iinc dL_law_1103 rfl ?_
    show TX X K_L_law 1106 [some (aR (some 0)), some (aR (some 3)), some (aR (some 26)), some (aR (some 57)), some (aI (x4 + 6)), none, none, none] [] M fin
    refine tx_goto (tgt := 23) dL_law_1106 rfl ?_
    exact (k153 g1 g2 g9 g16 g23 g30 g37 g41 g48 g55 g62 g69 g76 g83 g90)

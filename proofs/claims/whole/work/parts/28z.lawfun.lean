set_option maxRecDepth 20000 in
def f_Law_law_b18 (N : Nat) (L : Nat) (xs : Nat → Int32) (rec18 : Nat × Nat × Int32 × Nat × Nat × gW → Option (Int32 × gW)) (a1 : Nat) (a2 : Nat) (a3 : Int32) (kc : Nat) (ks : Nat) (w : gW) : Option (Int32 × gW) :=
  bd (Int32.ofNat L) fun x13 =>
  bd (x13 - 6) fun x14 =>
  cd (x14 < a3) (
    gd (kc ≤ 605105 ∧ ks ≤ 7286932) <|
    some (1, w)) <|
  gd (¬ (a3 < 0 ∨ L ≤ a3.toNatClampNeg)) <|
  bd (xs a3.toNatClampNeg) fun x17 =>
  bd (x17 &&& 63) fun x18 =>
  cd (x18 = 0) (
    bd (a3 + 1) fun x20 =>
    gd (¬ (x20 < 0 ∨ L ≤ x20.toNatClampNeg)) <|
    bd (xs x20.toNatClampNeg) fun x22 =>
    bd (a3 + 2) fun x23 =>
    gd (¬ (x23 < 0 ∨ L ≤ x23.toNatClampNeg)) <|
    bd (xs x23.toNatClampNeg) fun x25 =>
    gd ((sh w a1).1 = 11) <|
    gd (kc + 1 ≤ 605105 ∧ ks + 3 ≤ 7286932) <|
    kl (f_X_payer N a1 x22 x25 w) fun x26 w27 =>
    bd (a3 + 1) fun x31 =>
    gd (¬ (x31 < 0 ∨ L ≤ x31.toNatClampNeg)) <|
    bd (xs x31.toNatClampNeg) fun x33 =>
    bd (a3 + 2) fun x34 =>
    gd (¬ (x34 < 0 ∨ L ≤ x34.toNatClampNeg)) <|
    bd (xs x34.toNatClampNeg) fun x36 =>
    gd ((kc + 1) ≤ 605105 ∧ (ks + 3) ≤ 7286932) <|
    gd ((sh w27 a2).1 = 12) <|
    kl (f_M_payer N a2 x33 x36 w27) fun x38 w39 =>
    cd (x26 = x38) (
      bd (a3 + 6) fun x42 =>
      rec18 (a1, a2, x42, (kc + 1), (ks + 3), w39)) <|
    none) <|
  cd (x18 = 1) (
    bd (a3 + 1) fun x44 =>
    gd (¬ (x44 < 0 ∨ L ≤ x44.toNatClampNeg)) <|
    bd (xs x44.toNatClampNeg) fun x46 =>
    bd (a3 + 2) fun x47 =>
    gd (¬ (x47 < 0 ∨ L ≤ x47.toNatClampNeg)) <|
    bd (xs x47.toNatClampNeg) fun x49 =>
    gd (kc ≤ 605105 ∧ ks ≤ 7286932) <|
    gd ((sh w a1).1 = 11) <|
    kl (f_X_of N a1 x46 x49 w) fun x51 w52 =>
    bd (a3 + 1) fun x55 =>
    gd (¬ (x55 < 0 ∨ L ≤ x55.toNatClampNeg)) <|
    bd (xs x55.toNatClampNeg) fun x57 =>
    bd (a3 + 2) fun x58 =>
    gd (¬ (x58 < 0 ∨ L ≤ x58.toNatClampNeg)) <|
    bd (xs x58.toNatClampNeg) fun x60 =>
    gd ((sh w52 a2).1 = 12) <|
    kl (f_M_of N a2 x57 x60 w52) fun x61 w62 =>
    cd (x51 = x61) (
      bd (a3 + 6) fun x65 =>
      rec18 (a1, a2, x65, kc, ks, w62)) <|
    none) <|
  cd (x18 = 2) (
    bd (a3 + 1) fun x67 =>
    gd (¬ (x67 < 0 ∨ L ≤ x67.toNatClampNeg)) <|
    bd (xs x67.toNatClampNeg) fun x69 =>
    bd (a3 + 2) fun x70 =>
    gd (¬ (x70 < 0 ∨ L ≤ x70.toNatClampNeg)) <|
    bd (xs x70.toNatClampNeg) fun x72 =>
    bd (a3 + 3) fun x73 =>
    gd (¬ (x73 < 0 ∨ L ≤ x73.toNatClampNeg)) <|
    bd (xs x73.toNatClampNeg) fun x75 =>
    gd (kc ≤ 605105 ∧ ks ≤ 7286932) <|
    gd ((sh w a1).1 = 11) <|
    kl (f_X_purse N a1 x69 x72 x75 w) fun x77 w78 =>
    bd (a3 + 1) fun x81 =>
    gd (¬ (x81 < 0 ∨ L ≤ x81.toNatClampNeg)) <|
    bd (xs x81.toNatClampNeg) fun x83 =>
    bd (a3 + 2) fun x84 =>
    gd (¬ (x84 < 0 ∨ L ≤ x84.toNatClampNeg)) <|
    bd (xs x84.toNatClampNeg) fun x86 =>
    bd (a3 + 3) fun x87 =>
    gd (¬ (x87 < 0 ∨ L ≤ x87.toNatClampNeg)) <|
    bd (xs x87.toNatClampNeg) fun x89 =>
    gd ((sh w78 a2).1 = 12) <|
    kl (f_M_purse N a2 x83 x86 x89 w78) fun x90 w91 =>
    cd (x77 = x90) (
      bd (a3 + 6) fun x94 =>
      rec18 (a1, a2, x94, kc, ks, w91)) <|
    none) <|
  cd (x18 = 3) (
    bd (a3 + 1) fun x96 =>
    gd (¬ (x96 < 0 ∨ L ≤ x96.toNatClampNeg)) <|
    bd (xs x96.toNatClampNeg) fun x98 =>
    bd (a3 + 2) fun x99 =>
    gd (¬ (x99 < 0 ∨ L ≤ x99.toNatClampNeg)) <|
    bd (xs x99.toNatClampNeg) fun x101 =>
    gd (kc ≤ 605105 ∧ ks ≤ 7286932) <|
    gd ((sh w a1).1 = 11) <|
    kl (f_X_till N a1 x98 x101 w) fun x103 w104 =>
    bd (a3 + 1) fun x107 =>
    gd (¬ (x107 < 0 ∨ L ≤ x107.toNatClampNeg)) <|
    bd (xs x107.toNatClampNeg) fun x109 =>
    bd (a3 + 2) fun x110 =>
    gd (¬ (x110 < 0 ∨ L ≤ x110.toNatClampNeg)) <|
    bd (xs x110.toNatClampNeg) fun x112 =>
    gd ((sh w104 a2).1 = 12) <|
    kl (f_M_till N a2 x109 x112 w104) fun x113 w114 =>
    cd (x103 = x113) (
      bd (a3 + 6) fun x117 =>
      rec18 (a1, a2, x117, kc, ks, w114)) <|
    none) <|
  cd (x18 = 4) (
    bd (a3 + 1) fun x119 =>
    gd (¬ (x119 < 0 ∨ L ≤ x119.toNatClampNeg)) <|
    bd (xs x119.toNatClampNeg) fun x121 =>
    bd (a3 + 2) fun x122 =>
    gd (¬ (x122 < 0 ∨ L ≤ x122.toNatClampNeg)) <|
    bd (xs x122.toNatClampNeg) fun x124 =>
    bd (a3 + 3) fun x125 =>
    gd (¬ (x125 < 0 ∨ L ≤ x125.toNatClampNeg)) <|
    bd (xs x125.toNatClampNeg) fun x127 =>
    gd (kc ≤ 605105 ∧ ks ≤ 7286932) <|
    gd ((sh w a1).1 = 11) <|
    kl (f_X_row N a1 x121 x124 x127 w) fun x129 w130 =>
    bd (a3 + 1) fun x133 =>
    gd (¬ (x133 < 0 ∨ L ≤ x133.toNatClampNeg)) <|
    bd (xs x133.toNatClampNeg) fun x135 =>
    bd (a3 + 2) fun x136 =>
    gd (¬ (x136 < 0 ∨ L ≤ x136.toNatClampNeg)) <|
    bd (xs x136.toNatClampNeg) fun x138 =>
    bd (a3 + 3) fun x139 =>
    gd (¬ (x139 < 0 ∨ L ≤ x139.toNatClampNeg)) <|
    bd (xs x139.toNatClampNeg) fun x141 =>
    gd ((sh w130 a2).1 = 12) <|
    kl (f_M_row N a2 x135 x138 x141 w130) fun x142 w143 =>
    cd (x129 = x142) (
      bd (a3 + 6) fun x146 =>
      rec18 (a1, a2, x146, kc, ks, w143)) <|
    none) <|
  cd (x18 = 5) (
    bd (a3 + 1) fun x148 =>
    gd (¬ (x148 < 0 ∨ L ≤ x148.toNatClampNeg)) <|
    bd (xs x148.toNatClampNeg) fun x150 =>
    gd (kc ≤ 605105 ∧ ks ≤ 7286932) <|
    gd ((sh w a1).1 = 11) <|
    kl (f_X_feed N a1 x150 w) fun x152 w153 =>
    bd (a3 + 1) fun x156 =>
    gd (¬ (x156 < 0 ∨ L ≤ x156.toNatClampNeg)) <|
    bd (xs x156.toNatClampNeg) fun x158 =>
    gd ((sh w153 a2).1 = 12) <|
    kl (f_M_feed N a2 x158 w153) fun x159 w160 =>
    cd (x152 = x159) (
      bd (a3 + 6) fun x163 =>
      rec18 (a1, a2, x163, kc, ks, w160)) <|
    none) <|
  cd (x18 = 6) (
    gd (kc ≤ 605105 ∧ ks ≤ 7286932) <|
    gd ((sh w a1).1 = 11) <|
    kl (f_X_town N a1 w) fun x166 w167 =>
    gd ((sh w167 a2).1 = 12) <|
    kl (f_M_town N a2 w167) fun x170 w171 =>
    cd (x166 = x170) (
      bd (a3 + 6) fun x174 =>
      rec18 (a1, a2, x174, kc, ks, w171)) <|
    none) <|
  cd (x18 = 7) (
    bd (a3 + 1) fun x176 =>
    gd (¬ (x176 < 0 ∨ L ≤ x176.toNatClampNeg)) <|
    bd (xs x176.toNatClampNeg) fun x178 =>
    gd (kc ≤ 605105 ∧ ks ≤ 7286932) <|
    gd ((sh w a1).1 = 11) <|
    kl (f_X_told N a1 x178 w) fun x180 w181 =>
    bd (a3 + 1) fun x184 =>
    gd (¬ (x184 < 0 ∨ L ≤ x184.toNatClampNeg)) <|
    bd (xs x184.toNatClampNeg) fun x186 =>
    gd ((sh w181 a2).1 = 12) <|
    kl (f_M_told N a2 x186 w181) fun x187 w188 =>
    cd (x180 = x187) (
      bd (a3 + 6) fun x191 =>
      rec18 (a1, a2, x191, kc, ks, w188)) <|
    none) <|
  cd (x18 = 8) (
    bd (a3 + 1) fun x193 =>
    gd (¬ (x193 < 0 ∨ L ≤ x193.toNatClampNeg)) <|
    bd (xs x193.toNatClampNeg) fun x195 =>
    bd (a3 + 2) fun x196 =>
    gd (¬ (x196 < 0 ∨ L ≤ x196.toNatClampNeg)) <|
    bd (xs x196.toNatClampNeg) fun x198 =>
    gd (kc ≤ 605105 ∧ ks ≤ 7286932) <|
    gd ((sh w a1).1 = 11) <|
    kl (f_X_pay N a1 x195 x198 w) fun x200 w201 =>
    bd (a3 + 1) fun x204 =>
    gd (¬ (x204 < 0 ∨ L ≤ x204.toNatClampNeg)) <|
    bd (xs x204.toNatClampNeg) fun x206 =>
    bd (a3 + 2) fun x207 =>
    gd (¬ (x207 < 0 ∨ L ≤ x207.toNatClampNeg)) <|
    bd (xs x207.toNatClampNeg) fun x209 =>
    gd ((sh w201 a2).1 = 12) <|
    kl (f_M_pay N a2 x206 x209 w201) fun x210 w211 =>
    cd (x200 = x210) (
      bd (a3 + 6) fun x214 =>
      rec18 (a1, a2, x214, kc, ks, w211)) <|
    none) <|
  cd (x18 = 9) (
    bd (a3 + 1) fun x216 =>
    gd (¬ (x216 < 0 ∨ L ≤ x216.toNatClampNeg)) <|
    bd (xs x216.toNatClampNeg) fun x218 =>
    bd (a3 + 2) fun x219 =>
    gd (¬ (x219 < 0 ∨ L ≤ x219.toNatClampNeg)) <|
    bd (xs x219.toNatClampNeg) fun x221 =>
    bd (a3 + 3) fun x222 =>
    gd (¬ (x222 < 0 ∨ L ≤ x222.toNatClampNeg)) <|
    bd (xs x222.toNatClampNeg) fun x224 =>
    gd (kc ≤ 605105 ∧ ks ≤ 7286932) <|
    gd ((sh w a1).1 = 11) <|
    kl (f_X_would N a1 x218 x221 x224 w) fun x226 w227 =>
    bd (a3 + 1) fun x230 =>
    gd (¬ (x230 < 0 ∨ L ≤ x230.toNatClampNeg)) <|
    bd (xs x230.toNatClampNeg) fun x232 =>
    bd (a3 + 2) fun x233 =>
    gd (¬ (x233 < 0 ∨ L ≤ x233.toNatClampNeg)) <|
    bd (xs x233.toNatClampNeg) fun x235 =>
    bd (a3 + 3) fun x236 =>
    gd (¬ (x236 < 0 ∨ L ≤ x236.toNatClampNeg)) <|
    bd (xs x236.toNatClampNeg) fun x238 =>
    gd ((sh w227 a2).1 = 12) <|
    kl (f_M_would N a2 x232 x235 x238 w227) fun x239 w240 =>
    cd (x226 = x239) (
      bd (a3 + 6) fun x243 =>
      rec18 (a1, a2, x243, kc, ks, w240)) <|
    none) <|
  cd (x18 = 10) (
    bd (a3 + 1) fun x245 =>
    gd (¬ (x245 < 0 ∨ L ≤ x245.toNatClampNeg)) <|
    bd (xs x245.toNatClampNeg) fun x247 =>
    bd (a3 + 2) fun x248 =>
    gd (¬ (x248 < 0 ∨ L ≤ x248.toNatClampNeg)) <|
    bd (xs x248.toNatClampNeg) fun x250 =>
    bd (a3 + 3) fun x251 =>
    gd (¬ (x251 < 0 ∨ L ≤ x251.toNatClampNeg)) <|
    bd (xs x251.toNatClampNeg) fun x253 =>
    gd (kc ≤ 605105 ∧ ks ≤ 7286932) <|
    gd ((sh w a1).1 = 11) <|
    kl (f_X_least N a1 x247 x250 x253 w) fun x255 w256 =>
    bd (a3 + 1) fun x259 =>
    gd (¬ (x259 < 0 ∨ L ≤ x259.toNatClampNeg)) <|
    bd (xs x259.toNatClampNeg) fun x261 =>
    bd (a3 + 2) fun x262 =>
    gd (¬ (x262 < 0 ∨ L ≤ x262.toNatClampNeg)) <|
    bd (xs x262.toNatClampNeg) fun x264 =>
    bd (a3 + 3) fun x265 =>
    gd (¬ (x265 < 0 ∨ L ≤ x265.toNatClampNeg)) <|
    bd (xs x265.toNatClampNeg) fun x267 =>
    gd ((sh w256 a2).1 = 12) <|
    kl (f_M_least N a2 x261 x264 x267 w256) fun x268 w269 =>
    cd (x255 = x268) (
      bd (a3 + 6) fun x272 =>
      rec18 (a1, a2, x272, kc, ks, w269)) <|
    none) <|
  cd (x18 = 11) (
    bd (a3 + 1) fun x274 =>
    gd (¬ (x274 < 0 ∨ L ≤ x274.toNatClampNeg)) <|
    bd (xs x274.toNatClampNeg) fun x276 =>
    gd (kc ≤ 605105 ∧ ks ≤ 7286932) <|
    gd ((sh w a1).1 = 11) <|
    kl (f_X_exactly N a1 x276 w) fun x278 w279 =>
    bd (a3 + 1) fun x282 =>
    gd (¬ (x282 < 0 ∨ L ≤ x282.toNatClampNeg)) <|
    bd (xs x282.toNatClampNeg) fun x284 =>
    gd ((sh w279 a2).1 = 12) <|
    kl (f_M_exactly N a2 x284 w279) fun x285 w286 =>
    cd (x278 = x285) (
      bd (a3 + 6) fun x289 =>
      rec18 (a1, a2, x289, kc, ks, w286)) <|
    none) <|
  cd (x18 = 12) (
    bd (a3 + 1) fun x291 =>
    gd (¬ (x291 < 0 ∨ L ≤ x291.toNatClampNeg)) <|
    bd (xs x291.toNatClampNeg) fun x293 =>
    gd (kc ≤ 605105 ∧ ks ≤ 7286932) <|
    gd ((sh w a1).1 = 11) <|
    kl (f_X_price N a1 x293 w) fun x295 w296 =>
    bd (a3 + 1) fun x299 =>
    gd (¬ (x299 < 0 ∨ L ≤ x299.toNatClampNeg)) <|
    bd (xs x299.toNatClampNeg) fun x301 =>
    gd ((sh w296 a2).1 = 12) <|
    kl (f_M_price N a2 x301 w296) fun x302 w303 =>
    cd (x295 = x302) (
      bd (a3 + 6) fun x306 =>
      rec18 (a1, a2, x306, kc, ks, w303)) <|
    none) <|
  cd (x18 = 13) (
    bd (a3 + 1) fun x308 =>
    gd (¬ (x308 < 0 ∨ L ≤ x308.toNatClampNeg)) <|
    bd (xs x308.toNatClampNeg) fun x310 =>
    bd (a3 + 2) fun x311 =>
    gd (¬ (x311 < 0 ∨ L ≤ x311.toNatClampNeg)) <|
    bd (xs x311.toNatClampNeg) fun x313 =>
    gd (kc ≤ 605105 ∧ ks ≤ 7286932) <|
    gd ((sh w a1).1 = 11) <|
    kl (f_X_behind N a1 x310 x313 w) fun x315 w316 =>
    bd (a3 + 1) fun x319 =>
    gd (¬ (x319 < 0 ∨ L ≤ x319.toNatClampNeg)) <|
    bd (xs x319.toNatClampNeg) fun x321 =>
    bd (a3 + 2) fun x322 =>
    gd (¬ (x322 < 0 ∨ L ≤ x322.toNatClampNeg)) <|
    bd (xs x322.toNatClampNeg) fun x324 =>
    gd ((sh w316 a2).1 = 12) <|
    kl (f_M_behind N a2 x321 x324 w316) fun x325 w326 =>
    cd (x315 = x325) (
      bd (a3 + 6) fun x329 =>
      rec18 (a1, a2, x329, kc, ks, w326)) <|
    none) <|
  cd (x18 = 14) (
    gd (kc ≤ 605105 ∧ ks ≤ 7286932) <|
    gd ((sh w a1).1 = 11) <|
    kl (f_X_who N a1 w) fun x332 w333 =>
    gd ((sh w333 a2).1 = 12) <|
    kl (f_M_who N a2 w333) fun x336 w337 =>
    cd (x332 = x336) (
      bd (a3 + 6) fun x340 =>
      rec18 (a1, a2, x340, kc, ks, w337)) <|
    none) <|
  cd (x18 = 15) (
    bd (a3 + 1) fun x342 =>
    gd (¬ (x342 < 0 ∨ L ≤ x342.toNatClampNeg)) <|
    bd (xs x342.toNatClampNeg) fun x344 =>
    gd (kc ≤ 605105 ∧ ks ≤ 7286932) <|
    gd ((sh w a1).1 = 11) <|
    kl (f_X_next N a1 x344 w) fun x346 w347 =>
    bd (a3 + 1) fun x350 =>
    gd (¬ (x350 < 0 ∨ L ≤ x350.toNatClampNeg)) <|
    bd (xs x350.toNatClampNeg) fun x352 =>
    gd ((sh w347 a2).1 = 12) <|
    kl (f_M_next N a2 x352 w347) fun x353 w354 =>
    cd (x346 = x353) (
      bd (a3 + 6) fun x357 =>
      rec18 (a1, a2, x357, kc, ks, w354)) <|
    none) <|
  cd (x18 = 16) (
    bd (a3 + 1) fun x359 =>
    gd (¬ (x359 < 0 ∨ L ≤ x359.toNatClampNeg)) <|
    bd (xs x359.toNatClampNeg) fun x361 =>
    gd (kc ≤ 605105 ∧ ks ≤ 7286932) <|
    gd ((sh w a1).1 = 11) <|
    kl (f_X_shortOf N a1 x361 w) fun x363 w364 =>
    bd (a3 + 1) fun x367 =>
    gd (¬ (x367 < 0 ∨ L ≤ x367.toNatClampNeg)) <|
    bd (xs x367.toNatClampNeg) fun x369 =>
    gd ((sh w364 a2).1 = 12) <|
    kl (f_M_shortOf N a2 x369 w364) fun x370 w371 =>
    cd (x363 = x370) (
      bd (a3 + 6) fun x374 =>
      rec18 (a1, a2, x374, kc, ks, w371)) <|
    none) <|
  cd (x18 = 17) (
    bd (a3 + 1) fun x376 =>
    gd (¬ (x376 < 0 ∨ L ≤ x376.toNatClampNeg)) <|
    bd (xs x376.toNatClampNeg) fun x378 =>
    bd (a3 + 2) fun x379 =>
    gd (¬ (x379 < 0 ∨ L ≤ x379.toNatClampNeg)) <|
    bd (xs x379.toNatClampNeg) fun x381 =>
    bd (a3 + 3) fun x382 =>
    gd (¬ (x382 < 0 ∨ L ≤ x382.toNatClampNeg)) <|
    bd (xs x382.toNatClampNeg) fun x384 =>
    gd (kc ≤ 605105 ∧ ks ≤ 7286932) <|
    gd ((sh w a1).1 = 11) <|
    kl (f_X_more N a1 x378 x381 x384 w) fun x386 w387 =>
    bd (a3 + 1) fun x390 =>
    gd (¬ (x390 < 0 ∨ L ≤ x390.toNatClampNeg)) <|
    bd (xs x390.toNatClampNeg) fun x392 =>
    bd (a3 + 2) fun x393 =>
    gd (¬ (x393 < 0 ∨ L ≤ x393.toNatClampNeg)) <|
    bd (xs x393.toNatClampNeg) fun x395 =>
    bd (a3 + 3) fun x396 =>
    gd (¬ (x396 < 0 ∨ L ≤ x396.toNatClampNeg)) <|
    bd (xs x396.toNatClampNeg) fun x398 =>
    gd ((sh w387 a2).1 = 12) <|
    kl (f_M_more N a2 x392 x395 x398 w387) fun x399 w400 =>
    cd (x386 = x399) (
      bd (a3 + 6) fun x403 =>
      rec18 (a1, a2, x403, kc, ks, w400)) <|
    none) <|
  cd (x18 = 18) (
    bd (a3 + 1) fun x405 =>
    gd (¬ (x405 < 0 ∨ L ≤ x405.toNatClampNeg)) <|
    bd (xs x405.toNatClampNeg) fun x407 =>
    bd (a3 + 2) fun x408 =>
    gd (¬ (x408 < 0 ∨ L ≤ x408.toNatClampNeg)) <|
    bd (xs x408.toNatClampNeg) fun x410 =>
    gd (kc ≤ 605105 ∧ ks ≤ 7286932) <|
    gd ((sh w a1).1 = 11) <|
    kl (f_X_heaviest N a1 x407 x410 w) fun x412 w413 =>
    bd (a3 + 1) fun x416 =>
    gd (¬ (x416 < 0 ∨ L ≤ x416.toNatClampNeg)) <|
    bd (xs x416.toNatClampNeg) fun x418 =>
    bd (a3 + 2) fun x419 =>
    gd (¬ (x419 < 0 ∨ L ≤ x419.toNatClampNeg)) <|
    bd (xs x419.toNatClampNeg) fun x421 =>
    gd ((sh w413 a2).1 = 12) <|
    kl (f_M_heaviest N a2 x418 x421 w413) fun x422 w423 =>
    cd (x412 = x422) (
      bd (a3 + 6) fun x426 =>
      rec18 (a1, a2, x426, kc, ks, w423)) <|
    none) <|
  cd (x18 = 19) (
    bd (a3 + 1) fun x428 =>
    gd (¬ (x428 < 0 ∨ L ≤ x428.toNatClampNeg)) <|
    bd (xs x428.toNatClampNeg) fun x430 =>
    bd (a3 + 2) fun x431 =>
    gd (¬ (x431 < 0 ∨ L ≤ x431.toNatClampNeg)) <|
    bd (xs x431.toNatClampNeg) fun x433 =>
    gd (kc ≤ 605105 ∧ ks ≤ 7286932) <|
    gd ((sh w a1).1 = 11) <|
    kl (f_X_see N a1 x430 x433 w) fun x435 w436 =>
    bd (a3 + 1) fun x439 =>
    gd (¬ (x439 < 0 ∨ L ≤ x439.toNatClampNeg)) <|
    bd (xs x439.toNatClampNeg) fun x441 =>
    bd (a3 + 2) fun x442 =>
    gd (¬ (x442 < 0 ∨ L ≤ x442.toNatClampNeg)) <|
    bd (xs x442.toNatClampNeg) fun x444 =>
    gd ((sh w436 a2).1 = 12) <|
    kl (f_M_see N a2 x441 x444 w436) fun x445 w446 =>
    cd (x435 = x445) (
      bd (a3 + 6) fun x449 =>
      rec18 (a1, a2, x449, kc, ks, w446)) <|
    none) <|
  cd (x18 = 20) (
    gd (kc ≤ 605105 ∧ ks ≤ 7286932) <|
    gd ((sh w a1).1 = 11) <|
    kl (f_X_fits N a1 w) fun x452 w453 =>
    gd ((sh w453 a2).1 = 12) <|
    kl (f_M_fits N a2 w453) fun x456 w457 =>
    cd (x452 = x456) (
      bd (a3 + 6) fun x460 =>
      rec18 (a1, a2, x460, kc, ks, w457)) <|
    none) <|
  cd (x18 = 21) (
    bd (a3 + 1) fun x462 =>
    gd (¬ (x462 < 0 ∨ L ≤ x462.toNatClampNeg)) <|
    bd (xs x462.toNatClampNeg) fun x464 =>
    bd (a3 + 2) fun x465 =>
    gd (¬ (x465 < 0 ∨ L ≤ x465.toNatClampNeg)) <|
    bd (xs x465.toNatClampNeg) fun x467 =>
    gd (kc ≤ 605105 ∧ ks ≤ 7286932) <|
    gd ((sh w a1).1 = 11) <|
    kl (f_X_odds N a1 x464 x467 w) fun x469 w470 =>
    bd (a3 + 1) fun x473 =>
    gd (¬ (x473 < 0 ∨ L ≤ x473.toNatClampNeg)) <|
    bd (xs x473.toNatClampNeg) fun x475 =>
    bd (a3 + 2) fun x476 =>
    gd (¬ (x476 < 0 ∨ L ≤ x476.toNatClampNeg)) <|
    bd (xs x476.toNatClampNeg) fun x478 =>
    gd ((sh w470 a2).1 = 12) <|
    kl (f_M_odds N a2 x475 x478 w470) fun x479 w480 =>
    bd (lg_cmp x469 x479) fun x483 =>
    cd (x483 = 0) (
      bd (a3 + 6) fun x484 =>
      rec18 (a1, a2, x484, kc, ks, w480)) <|
    none) <|
  cd (x18 = 22) (
    bd (a3 + 1) fun x486 =>
    gd (¬ (x486 < 0 ∨ L ≤ x486.toNatClampNeg)) <|
    bd (xs x486.toNatClampNeg) fun x488 =>
    bd (a3 + 2) fun x489 =>
    gd (¬ (x489 < 0 ∨ L ≤ x489.toNatClampNeg)) <|
    bd (xs x489.toNatClampNeg) fun x491 =>
    gd (kc ≤ 605105 ∧ ks ≤ 7286932) <|
    gd ((sh w a1).1 = 11) <|
    kl (f_X_mean N a1 x488 x491 w) fun x493 w494 =>
    bd (a3 + 1) fun x497 =>
    gd (¬ (x497 < 0 ∨ L ≤ x497.toNatClampNeg)) <|
    bd (xs x497.toNatClampNeg) fun x499 =>
    bd (a3 + 2) fun x500 =>
    gd (¬ (x500 < 0 ∨ L ≤ x500.toNatClampNeg)) <|
    bd (xs x500.toNatClampNeg) fun x502 =>
    gd ((sh w494 a2).1 = 12) <|
    kl (f_M_mean N a2 x499 x502 w494) fun x503 w504 =>
    bd (lg_cmp x493 x503) fun x507 =>
    cd (x507 = 0) (
      bd (a3 + 6) fun x508 =>
      rec18 (a1, a2, x508, kc, ks, w504)) <|
    none) <|
  cd (x18 = 23) (
    bd (a3 + 1) fun x510 =>
    gd (¬ (x510 < 0 ∨ L ≤ x510.toNatClampNeg)) <|
    bd (xs x510.toNatClampNeg) fun x512 =>
    bd (a3 + 2) fun x513 =>
    gd (¬ (x513 < 0 ∨ L ≤ x513.toNatClampNeg)) <|
    bd (xs x513.toNatClampNeg) fun x515 =>
    gd (kc ≤ 605105 ∧ ks ≤ 7286932) <|
    gd ((sh w a1).1 = 11) <|
    kl (f_X_book N a1 x512 x515 w) fun x517 w518 =>
    bd (a3 + 1) fun x521 =>
    gd (¬ (x521 < 0 ∨ L ≤ x521.toNatClampNeg)) <|
    bd (xs x521.toNatClampNeg) fun x523 =>
    bd (a3 + 2) fun x524 =>
    gd (¬ (x524 < 0 ∨ L ≤ x524.toNatClampNeg)) <|
    bd (xs x524.toNatClampNeg) fun x526 =>
    gd ((sh w518 a2).1 = 12) <|
    kl (f_M_book N a2 x523 x526 w518) fun x527 w528 =>
    cd (x517 = x527) (
      bd (a3 + 6) fun x531 =>
      rec18 (a1, a2, x531, kc, ks, w528)) <|
    none) <|
  cd (x18 = 24) (
    gd (kc ≤ 605105 ∧ ks ≤ 7286932) <|
    gd ((sh w a1).1 = 11) <|
    kl (f_X_looked N a1 w) fun x534 w535 =>
    gd ((sh w535 a2).1 = 12) <|
    kl (f_M_looked N a2 w535) fun x538 w539 =>
    cd (x534 = x538) (
      bd (a3 + 6) fun x542 =>
      rec18 (a1, a2, x542, kc, ks, w539)) <|
    none) <|
  cd (x18 = 25) (
    bd (a3 + 1) fun x544 =>
    gd (¬ (x544 < 0 ∨ L ≤ x544.toNatClampNeg)) <|
    bd (xs x544.toNatClampNeg) fun x546 =>
    bd (a3 + 2) fun x547 =>
    gd (¬ (x547 < 0 ∨ L ≤ x547.toNatClampNeg)) <|
    bd (xs x547.toNatClampNeg) fun x549 =>
    gd (kc ≤ 605105 ∧ ks ≤ 7286932) <|
    gd ((sh w a1).1 = 11) <|
    kl (f_X_judge N a1 x546 x549 w) fun x551 w552 =>
    bd (a3 + 1) fun x555 =>
    gd (¬ (x555 < 0 ∨ L ≤ x555.toNatClampNeg)) <|
    bd (xs x555.toNatClampNeg) fun x557 =>
    bd (a3 + 2) fun x558 =>
    gd (¬ (x558 < 0 ∨ L ≤ x558.toNatClampNeg)) <|
    bd (xs x558.toNatClampNeg) fun x560 =>
    gd ((sh w552 a2).1 = 12) <|
    kl (f_M_judge N a2 x557 x560 w552) fun x561 w562 =>
    cd (x551 = x561) (
      bd (a3 + 6) fun x565 =>
      rec18 (a1, a2, x565, kc, ks, w562)) <|
    none) <|
  cd (x18 = 26) (
    gd (kc ≤ 605105 ∧ ks ≤ 7286932) <|
    gd ((sh w a1).1 = 11) <|
    kl (f_X_image N a1 w) fun x568 w569 =>
    gd ((sh w569 a2).1 = 12) <|
    kl (f_M_image N a2 w569) fun x572 w573 =>
    cd (x568 = x572) (
      bd (a3 + 6) fun x576 =>
      rec18 (a1, a2, x576, kc, ks, w573)) <|
    none) <|
  cd (x18 = 27) (
    gd (kc ≤ 605105 ∧ ks ≤ 7286932) <|
    gd ((sh w a1).1 = 11) <|
    kl (f_X_undo N a1 w) fun x579 w580 =>
    gd ((sh w580 a2).1 = 12) <|
    kl (f_M_undo N a2 w580) fun x583 w584 =>
    cd (x579 = x583) (
      bd (a3 + 6) fun x587 =>
      rec18 (a1, a2, x587, kc, ks, w584)) <|
    none) <|
  cd (x18 = 28) (
    bd (a3 + 1) fun x589 =>
    gd (¬ (x589 < 0 ∨ L ≤ x589.toNatClampNeg)) <|
    bd (xs x589.toNatClampNeg) fun x591 =>
    bd (a3 + 2) fun x592 =>
    gd (¬ (x592 < 0 ∨ L ≤ x592.toNatClampNeg)) <|
    bd (xs x592.toNatClampNeg) fun x594 =>
    bd (a3 + 3) fun x595 =>
    gd (¬ (x595 < 0 ∨ L ≤ x595.toNatClampNeg)) <|
    bd (xs x595.toNatClampNeg) fun x597 =>
    gd (kc ≤ 605105 ∧ ks ≤ 7286932) <|
    gd ((sh w a1).1 = 11) <|
    kl (f_X_act N a1 x591 x594 x597 w) fun x599 w600 =>
    bd (a3 + 1) fun x603 =>
    gd (¬ (x603 < 0 ∨ L ≤ x603.toNatClampNeg)) <|
    bd (xs x603.toNatClampNeg) fun x605 =>
    bd (a3 + 2) fun x606 =>
    gd (¬ (x606 < 0 ∨ L ≤ x606.toNatClampNeg)) <|
    bd (xs x606.toNatClampNeg) fun x608 =>
    bd (a3 + 3) fun x609 =>
    gd (¬ (x609 < 0 ∨ L ≤ x609.toNatClampNeg)) <|
    bd (xs x609.toNatClampNeg) fun x611 =>
    gd ((sh w600 a2).1 = 12) <|
    kl (f_M_act N a2 x605 x608 x611 w600) fun x612 w613 =>
    cd (x599 = x612) (
      bd (a3 + 6) fun x616 =>
      rec18 (a1, a2, x616, kc, ks, w613)) <|
    none) <|
  cd (x18 = 29) (
    bd (a3 + 1) fun x618 =>
    gd (¬ (x618 < 0 ∨ L ≤ x618.toNatClampNeg)) <|
    bd (xs x618.toNatClampNeg) fun x620 =>
    gd (kc ≤ 605105 ∧ ks ≤ 7286932) <|
    gd ((sh w a1).1 = 11) <|
    kl (f_X_trace N a1 x620 w) fun x622 w623 =>
    bd (a3 + 1) fun x626 =>
    gd (¬ (x626 < 0 ∨ L ≤ x626.toNatClampNeg)) <|
    bd (xs x626.toNatClampNeg) fun x628 =>
    gd ((sh w623 a2).1 = 12) <|
    kl (f_M_trace N a2 x628 w623) fun x629 w630 =>
    cd (x622 = x629) (
      bd (a3 + 6) fun x633 =>
      rec18 (a1, a2, x633, kc, ks, w630)) <|
    none) <|
  cd (x18 = 30) (
    bd (a3 + 1) fun x635 =>
    gd (¬ (x635 < 0 ∨ L ≤ x635.toNatClampNeg)) <|
    bd (xs x635.toNatClampNeg) fun x637 =>
    bd (a3 + 2) fun x638 =>
    gd (¬ (x638 < 0 ∨ L ≤ x638.toNatClampNeg)) <|
    bd (xs x638.toNatClampNeg) fun x640 =>
    gd (kc ≤ 605105 ∧ ks ≤ 7286932) <|
    gd ((sh w a1).1 = 11) <|
    kl (f_X_taken N a1 x637 x640 w) fun x642 w643 =>
    bd (a3 + 1) fun x646 =>
    gd (¬ (x646 < 0 ∨ L ≤ x646.toNatClampNeg)) <|
    bd (xs x646.toNatClampNeg) fun x648 =>
    bd (a3 + 2) fun x649 =>
    gd (¬ (x649 < 0 ∨ L ≤ x649.toNatClampNeg)) <|
    bd (xs x649.toNatClampNeg) fun x651 =>
    gd ((sh w643 a2).1 = 12) <|
    kl (f_M_taken N a2 x648 x651 w643) fun x652 w653 =>
    cd (x642 = x652) (
      bd (a3 + 6) fun x656 =>
      rec18 (a1, a2, x656, kc, ks, w653)) <|
    none) <|
  cd (x18 = 31) (
    bd (a3 + 1) fun x658 =>
    gd (¬ (x658 < 0 ∨ L ≤ x658.toNatClampNeg)) <|
    bd (xs x658.toNatClampNeg) fun x660 =>
    gd (kc ≤ 605105 ∧ ks ≤ 7286932) <|
    gd ((sh w a1).1 = 11) <|
    kl (f_X_count N a1 x660 w) fun x662 w663 =>
    bd (a3 + 1) fun x666 =>
    gd (¬ (x666 < 0 ∨ L ≤ x666.toNatClampNeg)) <|
    bd (xs x666.toNatClampNeg) fun x668 =>
    gd ((sh w663 a2).1 = 12) <|
    kl (f_M_count N a2 x668 w663) fun x669 w670 =>
    cd (x662 = x669) (
      bd (a3 + 6) fun x673 =>
      rec18 (a1, a2, x673, kc, ks, w670)) <|
    none) <|
  cd (x18 = 32) (
    bd (a3 + 1) fun x675 =>
    gd (¬ (x675 < 0 ∨ L ≤ x675.toNatClampNeg)) <|
    bd (xs x675.toNatClampNeg) fun x677 =>
    bd (a3 + 2) fun x678 =>
    gd (¬ (x678 < 0 ∨ L ≤ x678.toNatClampNeg)) <|
    bd (xs x678.toNatClampNeg) fun x680 =>
    bd (a3 + 3) fun x681 =>
    gd (¬ (x681 < 0 ∨ L ≤ x681.toNatClampNeg)) <|
    bd (xs x681.toNatClampNeg) fun x683 =>
    gd (kc ≤ 605105 ∧ ks ≤ 7286932) <|
    gd ((sh w a1).1 = 11) <|
    kl (f_X_tape N a1 x677 x680 x683 w) fun x685 w686 =>
    bd (a3 + 1) fun x689 =>
    gd (¬ (x689 < 0 ∨ L ≤ x689.toNatClampNeg)) <|
    bd (xs x689.toNatClampNeg) fun x691 =>
    bd (a3 + 2) fun x692 =>
    gd (¬ (x692 < 0 ∨ L ≤ x692.toNatClampNeg)) <|
    bd (xs x692.toNatClampNeg) fun x694 =>
    bd (a3 + 3) fun x695 =>
    gd (¬ (x695 < 0 ∨ L ≤ x695.toNatClampNeg)) <|
    bd (xs x695.toNatClampNeg) fun x697 =>
    gd ((sh w686 a2).1 = 12) <|
    kl (f_M_tape N a2 x691 x694 x697 w686) fun x698 w699 =>
    cd (x685 = x698) (
      bd (a3 + 6) fun x702 =>
      rec18 (a1, a2, x702, kc, ks, w699)) <|
    none) <|
  cd (x18 = 33) (
    bd (a3 + 1) fun x704 =>
    gd (¬ (x704 < 0 ∨ L ≤ x704.toNatClampNeg)) <|
    bd (xs x704.toNatClampNeg) fun x706 =>
    bd (a3 + 2) fun x707 =>
    gd (¬ (x707 < 0 ∨ L ≤ x707.toNatClampNeg)) <|
    bd (xs x707.toNatClampNeg) fun x709 =>
    bd (a3 + 3) fun x710 =>
    gd (¬ (x710 < 0 ∨ L ≤ x710.toNatClampNeg)) <|
    bd (xs x710.toNatClampNeg) fun x712 =>
    bd (x712.toInt64) fun x713 =>
    bd (x713 <<< ((32 : Int32).toInt64 &&& 63)) fun x714 =>
    bd (a3 + 4) fun x715 =>
    gd (¬ (x715 < 0 ∨ L ≤ x715.toNatClampNeg)) <|
    bd (xs x715.toNatClampNeg) fun x717 =>
    bd (x717.toInt64) fun x718 =>
    bd (x718 &&& 4294967295) fun x719 =>
    bd (x714 ||| x719) fun x720 =>
    gd (kc ≤ 605105 ∧ ks ≤ 7286932) <|
    gd ((sh w a1).1 = 11) <|
    kl (f_X_item N a1 x706 x709 x720 w) fun x722 w723 =>
    bd (a3 + 1) fun x726 =>
    gd (¬ (x726 < 0 ∨ L ≤ x726.toNatClampNeg)) <|
    bd (xs x726.toNatClampNeg) fun x728 =>
    bd (a3 + 2) fun x729 =>
    gd (¬ (x729 < 0 ∨ L ≤ x729.toNatClampNeg)) <|
    bd (xs x729.toNatClampNeg) fun x731 =>
    bd (a3 + 3) fun x732 =>
    gd (¬ (x732 < 0 ∨ L ≤ x732.toNatClampNeg)) <|
    bd (xs x732.toNatClampNeg) fun x734 =>
    bd (x734.toInt64) fun x735 =>
    bd (x735 <<< ((32 : Int32).toInt64 &&& 63)) fun x736 =>
    bd (a3 + 4) fun x737 =>
    gd (¬ (x737 < 0 ∨ L ≤ x737.toNatClampNeg)) <|
    bd (xs x737.toNatClampNeg) fun x739 =>
    bd (x739.toInt64) fun x740 =>
    bd (x740 &&& 4294967295) fun x741 =>
    bd (x736 ||| x741) fun x742 =>
    gd ((sh w723 a2).1 = 12) <|
    kl (f_M_item N a2 x728 x731 x742 w723) fun x743 w744 =>
    cd (x722 = x743) (
      bd (a3 + 6) fun x747 =>
      rec18 (a1, a2, x747, kc, ks, w744)) <|
    none) <|
  cd (x18 = 34) (
    bd (a3 + 1) fun x749 =>
    gd (¬ (x749 < 0 ∨ L ≤ x749.toNatClampNeg)) <|
    bd (xs x749.toNatClampNeg) fun x751 =>
    bd (a3 + 2) fun x752 =>
    gd (¬ (x752 < 0 ∨ L ≤ x752.toNatClampNeg)) <|
    bd (xs x752.toNatClampNeg) fun x754 =>
    gd (kc ≤ 605105 ∧ ks ≤ 7286932) <|
    gd ((sh w a1).1 = 11) <|
    kl (f_X_read N a1 x751 x754 w) fun x756 w757 =>
    bd (a3 + 1) fun x760 =>
    gd (¬ (x760 < 0 ∨ L ≤ x760.toNatClampNeg)) <|
    bd (xs x760.toNatClampNeg) fun x762 =>
    bd (a3 + 2) fun x763 =>
    gd (¬ (x763 < 0 ∨ L ≤ x763.toNatClampNeg)) <|
    bd (xs x763.toNatClampNeg) fun x765 =>
    gd ((sh w757 a2).1 = 12) <|
    kl (f_M_read N a2 x762 x765 w757) fun x766 w767 =>
    bd (lg_cmp x756 x766) fun x770 =>
    cd (x770 = 0) (
      bd (a3 + 6) fun x771 =>
      rec18 (a1, a2, x771, kc, ks, w767)) <|
    none) <|
  cd (x18 = 35) (
    bd (a3 + 1) fun x773 =>
    gd (¬ (x773 < 0 ∨ L ≤ x773.toNatClampNeg)) <|
    bd (xs x773.toNatClampNeg) fun x775 =>
    bd (a3 + 2) fun x776 =>
    gd (¬ (x776 < 0 ∨ L ≤ x776.toNatClampNeg)) <|
    bd (xs x776.toNatClampNeg) fun x778 =>
    bd (a3 + 3) fun x779 =>
    gd (¬ (x779 < 0 ∨ L ≤ x779.toNatClampNeg)) <|
    bd (xs x779.toNatClampNeg) fun x781 =>
    bd (a3 + 4) fun x782 =>
    gd (¬ (x782 < 0 ∨ L ≤ x782.toNatClampNeg)) <|
    bd (xs x782.toNatClampNeg) fun x784 =>
    bd (a3 + 5) fun x785 =>
    gd (¬ (x785 < 0 ∨ L ≤ x785.toNatClampNeg)) <|
    bd (xs x785.toNatClampNeg) fun x787 =>
    gd (kc ≤ 605105 ∧ ks ≤ 7286932) <|
    gd ((sh w a1).1 = 11) <|
    kl (f_X_shift N a1 x775 x778 x781 x784 x787 w) fun x789 w790 =>
    bd (a3 + 1) fun x793 =>
    gd (¬ (x793 < 0 ∨ L ≤ x793.toNatClampNeg)) <|
    bd (xs x793.toNatClampNeg) fun x795 =>
    bd (a3 + 2) fun x796 =>
    gd (¬ (x796 < 0 ∨ L ≤ x796.toNatClampNeg)) <|
    bd (xs x796.toNatClampNeg) fun x798 =>
    bd (a3 + 3) fun x799 =>
    gd (¬ (x799 < 0 ∨ L ≤ x799.toNatClampNeg)) <|
    bd (xs x799.toNatClampNeg) fun x801 =>
    bd (a3 + 4) fun x802 =>
    gd (¬ (x802 < 0 ∨ L ≤ x802.toNatClampNeg)) <|
    bd (xs x802.toNatClampNeg) fun x804 =>
    bd (a3 + 5) fun x805 =>
    gd (¬ (x805 < 0 ∨ L ≤ x805.toNatClampNeg)) <|
    bd (xs x805.toNatClampNeg) fun x807 =>
    gd ((sh w790 a2).1 = 12) <|
    kl (f_M_shift N a2 x795 x798 x801 x804 x807 w790) fun x808 w809 =>
    cd (x789 = x808) (
      bd (a3 + 6) fun x812 =>
      rec18 (a1, a2, x812, kc, ks, w809)) <|
    none) <|
  bd (a3 + 6) fun x813 =>
  rec18 (a1, a2, x813, kc, ks, w)
def f_Law_law_l18 (N : Nat) (L : Nat) (xs : Nat → Int32) (a1 : Nat) (a2 : Nat) (a3 : Int32) (kc : Nat) (ks : Nat) (w : gW) : Option (Int32 × gW) :=
  itr (fun rec (q : Nat × Nat × Int32 × Nat × Nat × gW) => f_Law_law_b18 N L xs rec q.1 q.2.1 q.2.2.1 q.2.2.2.1 q.2.2.2.2.1 q.2.2.2.2.2) N (a1, a2, a3, kc, ks, w)
def f_Law_law_b0 (N : Nat) (L : Nat) (xs : Nat → Int32) (w : gW) : Option (Int32 × gW) :=
  bd (nx w) fun p1 =>
  bd (nw w 11 0) fun w2 =>
  gd ((sh w2 p1).1 = 11) <|
  kl (f_X_init N p1 w2) fun x3 w4 =>
  bd (nx w4) fun p7 =>
  bd (nw w4 12 0) fun w8 =>
  gd ((sh w8 p7).1 = 12) <|
  kl (f_M_init N p7 w8) fun x9 w10 =>
  f_Law_law_l18 N L xs p1 p7 0 182 4022 w10
def f_law (N L : Nat) (xs : Nat → Int32) (w : gW) : Option (Int32 × gW) := f_Law_law_b0 N L xs w

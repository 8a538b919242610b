def mL_law_l23 (sl : Nat) (xs : Nat → Int32) : Nat → MHp → Option Nat → Option Nat → Option Nat → Int32 → Option (MHp)
  | 0, _, _, _, _, _ => none
  | n + 1, h, v1, v2, v3, v4 => (if ((Int32.ofNat sl) - 7) < v4 then some h else (gX sl xs v4).bind fun x1 => (if (x1 &&& 63) = 0 then (gX sl xs (v4 + 1)).bind fun x3 => (gX sl xs (v4 + 2)).bind fun x4 => (gX sl xs (v4 + 3)).bind fun x5 => (gX sl xs (v4 + 4)).bind fun x6 => (gX sl xs (v4 + 5)).bind fun x7 => (rcv 12 h v1).bind fun b9 => (mX11_feed h b9 x3 x4 x5 x6 x7).bind fun r8 => (gX sl xs (v4 + 1)).bind fun x10 => (gX sl xs (v4 + 2)).bind fun x11 => (gX sl xs (v4 + 3)).bind fun x12 => (gX sl xs (v4 + 4)).bind fun x13 => (gX sl xs (v4 + 5)).bind fun x14 => (rcv 17 r8.2 v2).bind fun b16 => (mX16_feed r8.2 b16 x10 x11 x12 x13 x14).bind fun r15 => (if r8.1 = r15.1 then mL_law_l23 sl xs n r15.2 v1 v2 v3 (v4 + 7) else none) else (if (x1 &&& 63) = 1 then (gX sl xs (v4 + 1)).bind fun x18 => (rcv 12 h v1).bind fun b20 => (mX11_book h b20 x18).bind fun r19 => (gX sl xs (v4 + 1)).bind fun x21 => (rcv 17 r19.2 v2).bind fun b23 => (mX16_book r19.2 b23 x21).bind fun r22 => (if r19.1 = r22.1 then mL_law_l23 sl xs n r22.2 v1 v2 v3 (v4 + 7) else none) else (if (x1 &&& 63) = 2 then (gX sl xs (v4 + 1)).bind fun x25 => (rcv 12 h v1).bind fun b27 => (mX11_table h b27 x25).bind fun r26 => (gX sl xs (v4 + 1)).bind fun x28 => (rcv 17 r26.2 v2).bind fun b30 => (mX16_table r26.2 b30 x28).bind fun r29 => (if r26.1 = r29.1 then mL_law_l23 sl xs n r29.2 v1 v2 v3 (v4 + 7) else none) else (if (x1 &&& 63) = 3 then (rcv 12 h v1).bind fun b33 => (mX11_fault h b33).bind fun r32 => (rcv 17 h v2).bind fun b35 => (mX16_fault h b35).bind fun r34 => (if r32 = r34.1 then mL_law_l23 sl xs n r34.2 v1 v2 v3 (v4 + 7) else none) else (if (x1 &&& 63) = 4 then (rcv 12 h v1).bind fun b38 => (mX11_where h b38).bind fun r37 => (rcv 17 h v2).bind fun b40 => (mX16_where h b40).bind fun r39 => (if r37 = r39.1 then mL_law_l23 sl xs n r39.2 v1 v2 v3 (v4 + 7) else none) else (if (x1 &&& 63) = 5 then (gX sl xs (v4 + 1)).bind fun x42 => (gX sl xs (v4 + 2)).bind fun x43 => (rcv 12 h v1).bind fun b45 => (mX11_field h b45 x42 x43).bind fun r44 => (gX sl xs (v4 + 1)).bind fun x46 => (gX sl xs (v4 + 2)).bind fun x47 => (rcv 17 h v2).bind fun b49 => (mX16_field h b49 x46 x47).bind fun r48 => (if r44 = r48.1 then mL_law_l23 sl xs n r48.2 v1 v2 v3 (v4 + 7) else none) else (if (x1 &&& 63) = 6 then (gX sl xs (v4 + 1)).bind fun x51 => (gX sl xs (v4 + 2)).bind fun x52 => (gX sl xs (v4 + 3)).bind fun x53 => (gX sl xs (v4 + 4)).bind fun x54 => (gX sl xs (v4 + 5)).bind fun x55 => (gX sl xs (v4 + 6)).bind fun x56 => (rcv 12 h v1).bind fun b58 => (mX11_row h b58 x51 x52 x53 x54 x55 x56).bind fun r57 => (gX sl xs (v4 + 1)).bind fun x59 => (gX sl xs (v4 + 2)).bind fun x60 => (gX sl xs (v4 + 3)).bind fun x61 => (gX sl xs (v4 + 4)).bind fun x62 => (gX sl xs (v4 + 5)).bind fun x63 => (gX sl xs (v4 + 6)).bind fun x64 => (rcv 17 r57.2 v2).bind fun b66 => (mX16_row r57.2 b66 x59 x60 x61 x62 x63 x64).bind fun r65 => (if r57.1 = r65.1 then mL_law_l23 sl xs n r65.2 v1 v2 v3 (v4 + 7) else none) else (if (x1 &&& 63) = 7 then (gX sl xs (v4 + 1)).bind fun x68 => (gX sl xs (v4 + 2)).bind fun x69 => (rcv 12 h v1).bind fun b71 => (mX11_weight h b71 x68 x69).bind fun r70 => (gX sl xs (v4 + 1)).bind fun x72 => (gX sl xs (v4 + 2)).bind fun x73 => (rcv 17 r70.2 v2).bind fun b75 => (mX16_weight r70.2 b75 x72 x73).bind fun r74 => (if r70.1 = r74.1 then mL_law_l23 sl xs n r74.2 v1 v2 v3 (v4 + 7) else none) else (if (x1 &&& 63) = 8 then (gX sl xs (v4 + 1)).bind fun x77 => (rcv 12 h v1).bind fun b79 => (mX11_withdraw h b79 x77).bind fun r78 => (gX sl xs (v4 + 1)).bind fun x80 => (rcv 17 r78.2 v2).bind fun b82 => (mX16_withdraw r78.2 b82 x80).bind fun r81 => (if r78.1 = r81.1 then mL_law_l23 sl xs n r81.2 v1 v2 v3 (v4 + 7) else none) else (if (x1 &&& 63) = 9 then (gX sl xs (v4 + 1)).bind fun x84 => (gX sl xs (v4 + 2)).bind fun x85 => (gX sl xs (v4 + 3)).bind fun x86 => (gX sl xs (v4 + 4)).bind fun x87 => (rcv 12 h v1).bind fun b89 => (mX11_value h b89 x84 x85 x86 x87).bind fun r88 => (gX sl xs (v4 + 1)).bind fun x90 => (gX sl xs (v4 + 2)).bind fun x91 => (gX sl xs (v4 + 3)).bind fun x92 => (gX sl xs (v4 + 4)).bind fun x93 => (rcv 17 h v2).bind fun b95 => (mX16_value h b95 x90 x91 x92 x93).bind fun r94 => (if r88 = r94.1 then mL_law_l23 sl xs n r94.2 v1 v2 v3 (v4 + 7) else none) else (if (x1 &&& 63) = 10 then (gX sl xs (v4 + 1)).bind fun x97 => (gX sl xs (v4 + 2)).bind fun x98 => (rcv 12 h v1).bind fun b100 => (mX11_of h b100 x97 x98).bind fun r99 => (gX sl xs (v4 + 1)).bind fun x101 => (gX sl xs (v4 + 2)).bind fun x102 => (rcv 17 r99.2 v2).bind fun b104 => (mX16_of r99.2 b104 x101 x102).bind fun r103 => (if r99.1 = r103.1 then mL_law_l23 sl xs n r103.2 v1 v2 v3 (v4 + 7) else none) else (if (x1 &&& 63) = 11 then (gX sl xs (v4 + 1)).bind fun x106 => (rcv 12 h v1).bind fun b108 => (mX11_mend h b108 x106).bind fun r107 => (gX sl xs (v4 + 1)).bind fun x109 => (rcv 17 r107.2 v2).bind fun b111 => (mX16_mend r107.2 b111 x109).bind fun r110 => (if r107.1 = r110.1 then mL_law_l23 sl xs n r110.2 v1 v2 v3 (v4 + 7) else none) else (if (x1 &&& 63) = 12 then (rcv 12 h v1).bind fun b114 => (mX11_giver h b114).bind fun r113 => (rcv 17 h v2).bind fun b116 => (mX16_giver h b116).bind fun r115 => (if r113 = r115.1 then mL_law_l23 sl xs n r115.2 v1 v2 v3 (v4 + 7) else none) else (if (x1 &&& 63) = 13 then (gX sl xs (v4 + 1)).bind fun x118 => (gX sl xs (v4 + 2)).bind fun x119 => (rcv 12 h v1).bind fun b121 => (mX11_fill h b121 x118 x119).bind fun r120 => (gX sl xs (v4 + 1)).bind fun x122 => (gX sl xs (v4 + 2)).bind fun x123 => (rcv 17 r120.2 v2).bind fun b125 => (mX16_fill r120.2 b125 x122 x123).bind fun r124 => (if r120.1 = r124.1 then mL_law_l23 sl xs n r124.2 v1 v2 v3 (v4 + 7) else none) else (if (x1 &&& 63) = 14 then (gX sl xs (v4 + 1)).bind fun x127 => (rcv 12 h v1).bind fun b129 => (mX11_pass h b129 x127).bind fun r128 => (gX sl xs (v4 + 1)).bind fun x130 => (rcv 17 r128.2 v2).bind fun b132 => (mX16_pass r128.2 b132 x130).bind fun r131 => (if r128.1 = r131.1 then mL_law_l23 sl xs n r131.2 v1 v2 v3 (v4 + 7) else none) else (if (x1 &&& 63) = 15 then (gX sl xs (v4 + 1)).bind fun x134 => (gX sl xs (v4 + 2)).bind fun x135 => (gX sl xs (v4 + 3)).bind fun x136 => (gX sl xs (v4 + 4)).bind fun x137 => (gX sl xs (v4 + 5)).bind fun x138 => (rcv 12 h v1).bind fun b140 => (mX11_figure h b140 x134 x135 x136 x137 x138).bind fun r139 => (gX sl xs (v4 + 1)).bind fun x141 => (gX sl xs (v4 + 2)).bind fun x142 => (gX sl xs (v4 + 3)).bind fun x143 => (gX sl xs (v4 + 4)).bind fun x144 => (gX sl xs (v4 + 5)).bind fun x145 => (rcv 17 r139.2 v2).bind fun b147 => (mX16_figure r139.2 b147 x141 x142 x143 x144 x145).bind fun r146 => (if (lg_cmp r139.1 r146.1) = 0 then mL_law_l23 sl xs n r146.2 v1 v2 v3 (v4 + 7) else none) else (if (x1 &&& 63) = 16 then (gX sl xs (v4 + 1)).bind fun x149 => (gX sl xs (v4 + 2)).bind fun x150 => (gX sl xs (v4 + 3)).bind fun x151 => (gX sl xs (v4 + 4)).bind fun x152 => (if x152 = 0 then (rcv 12 h v1).bind fun b154 => (mX11_span h b154 x149 x150 x151 0).bind fun r153 => (gX sl xs (v4 + 1)).bind fun x155 => (gX sl xs (v4 + 2)).bind fun x156 => (gX sl xs (v4 + 3)).bind fun x157 => (gX sl xs (v4 + 4)).bind fun x158 => (if x158 = 0 then (rcv 17 r153.2 v2).bind fun b160 => (mX16_span r153.2 b160 x155 x156 x157 0).bind fun r159 => (if (lg_cmp r153.1 r159.1) = 0 then mL_law_l23 sl xs n r159.2 v1 v2 v3 (v4 + 7) else none) else (rcv 17 r153.2 v2).bind fun b163 => (mX16_span r153.2 b163 x155 x156 x157 1).bind fun r162 => (if (lg_cmp r153.1 r162.1) = 0 then mL_law_l23 sl xs n r162.2 v1 v2 v3 (v4 + 7) else none)) else (rcv 12 h v1).bind fun b167 => (mX11_span h b167 x149 x150 x151 1).bind fun r166 => (gX sl xs (v4 + 1)).bind fun x168 => (gX sl xs (v4 + 2)).bind fun x169 => (gX sl xs (v4 + 3)).bind fun x170 => (gX sl xs (v4 + 4)).bind fun x171 => (if x171 = 0 then (rcv 17 r166.2 v2).bind fun b173 => (mX16_span r166.2 b173 x168 x169 x170 0).bind fun r172 => (if (lg_cmp r166.1 r172.1) = 0 then mL_law_l23 sl xs n r172.2 v1 v2 v3 (v4 + 7) else none) else (rcv 17 r166.2 v2).bind fun b176 => (mX16_span r166.2 b176 x168 x169 x170 1).bind fun r175 => (if (lg_cmp r166.1 r175.1) = 0 then mL_law_l23 sl xs n r175.2 v1 v2 v3 (v4 + 7) else none))) else (if (x1 &&& 63) = 17 then (gX sl xs (v4 + 1)).bind fun x180 => (gX sl xs (v4 + 2)).bind fun x181 => (gX sl xs (v4 + 3)).bind fun x182 => (gX sl xs (v4 + 4)).bind fun x183 => (gX sl xs (v4 + 5)).bind fun x184 => (rcv 12 h v1).bind fun b186 => (mX11_far h b186 x180 x181 x182 x183 x184).bind fun r185 => (gX sl xs (v4 + 1)).bind fun x187 => (gX sl xs (v4 + 2)).bind fun x188 => (gX sl xs (v4 + 3)).bind fun x189 => (gX sl xs (v4 + 4)).bind fun x190 => (gX sl xs (v4 + 5)).bind fun x191 => (rcv 17 r185.2 v2).bind fun b193 => (mX16_far r185.2 b193 x187 x188 x189 x190 x191).bind fun r192 => (if (lg_cmp r185.1 r192.1) = 0 then mL_law_l23 sl xs n r192.2 v1 v2 v3 (v4 + 7) else none) else (if (x1 &&& 63) = 18 then (gX sl xs (v4 + 1)).bind fun x195 => (gX sl xs (v4 + 2)).bind fun x196 => (gX sl xs (v4 + 3)).bind fun x197 => (rcv 12 h v1).bind fun b199 => (mX11_known h b199 x195 x196 x197).bind fun r198 => (gX sl xs (v4 + 1)).bind fun x200 => (gX sl xs (v4 + 2)).bind fun x201 => (gX sl xs (v4 + 3)).bind fun x202 => (rcv 17 r198.2 v2).bind fun b204 => (mX16_known r198.2 b204 x200 x201 x202).bind fun r203 => (if r198.1 = r203.1 then mL_law_l23 sl xs n r203.2 v1 v2 v3 (v4 + 7) else none) else (if (x1 &&& 63) = 19 then (gX sl xs (v4 + 1)).bind fun x206 => (gX sl xs (v4 + 2)).bind fun x207 => (gX sl xs (v4 + 3)).bind fun x208 => (gX sl xs (v4 + 4)).bind fun x209 => (if x209 = 0 then (rcv 12 h v1).bind fun b211 => (mX11_agreed h b211 x206 x207 x208 0).bind fun r210 => (gX sl xs (v4 + 1)).bind fun x212 => (gX sl xs (v4 + 2)).bind fun x213 => (gX sl xs (v4 + 3)).bind fun x214 => (gX sl xs (v4 + 4)).bind fun x215 => (if x215 = 0 then (rcv 17 r210.2 v2).bind fun b217 => (mX16_agreed r210.2 b217 x212 x213 x214 0).bind fun r216 => (if (lg_cmp r210.1 r216.1) = 0 then mL_law_l23 sl xs n r216.2 v1 v2 v3 (v4 + 7) else none) else (rcv 17 r210.2 v2).bind fun b220 => (mX16_agreed r210.2 b220 x212 x213 x214 1).bind fun r219 => (if (lg_cmp r210.1 r219.1) = 0 then mL_law_l23 sl xs n r219.2 v1 v2 v3 (v4 + 7) else none)) else (rcv 12 h v1).bind fun b224 => (mX11_agreed h b224 x206 x207 x208 1).bind fun r223 => (gX sl xs (v4 + 1)).bind fun x225 => (gX sl xs (v4 + 2)).bind fun x226 => (gX sl xs (v4 + 3)).bind fun x227 => (gX sl xs (v4 + 4)).bind fun x228 => (if x228 = 0 then (rcv 17 r223.2 v2).bind fun b230 => (mX16_agreed r223.2 b230 x225 x226 x227 0).bind fun r229 => (if (lg_cmp r223.1 r229.1) = 0 then mL_law_l23 sl xs n r229.2 v1 v2 v3 (v4 + 7) else none) else (rcv 17 r223.2 v2).bind fun b233 => (mX16_agreed r223.2 b233 x225 x226 x227 1).bind fun r232 => (if (lg_cmp r223.1 r232.1) = 0 then mL_law_l23 sl xs n r232.2 v1 v2 v3 (v4 + 7) else none))) else (if (x1 &&& 63) = 20 then (gX sl xs (v4 + 1)).bind fun x237 => (gX sl xs (v4 + 2)).bind fun x238 => (gX sl xs (v4 + 3)).bind fun x239 => (rcv 12 h v1).bind fun b241 => (mX11_group h b241 x237 x238 x239).bind fun r240 => (gX sl xs (v4 + 1)).bind fun x242 => (gX sl xs (v4 + 2)).bind fun x243 => (gX sl xs (v4 + 3)).bind fun x244 => (rcv 17 r240.2 v2).bind fun b246 => (mX16_group r240.2 b246 x242 x243 x244).bind fun r245 => (if r240.1 = r245.1 then mL_law_l23 sl xs n r245.2 v1 v2 v3 (v4 + 7) else none) else (if (x1 &&& 63) = 21 then (gX sl xs (v4 + 1)).bind fun x248 => (gX sl xs (v4 + 2)).bind fun x249 => (gX sl xs (v4 + 3)).bind fun x250 => (gX sl xs (v4 + 4)).bind fun x251 => (rcv 12 h v1).bind fun b253 => (mX11_small h b253 x248 x249 x250 x251).bind fun r252 => (gX sl xs (v4 + 1)).bind fun x254 => (gX sl xs (v4 + 2)).bind fun x255 => (gX sl xs (v4 + 3)).bind fun x256 => (gX sl xs (v4 + 4)).bind fun x257 => (rcv 17 r252.2 v2).bind fun b259 => (mX16_small r252.2 b259 x254 x255 x256 x257).bind fun r258 => (if r252.1 = r258.1 then mL_law_l23 sl xs n r258.2 v1 v2 v3 (v4 + 7) else none) else (if (x1 &&& 63) = 22 then (gX sl xs (v4 + 1)).bind fun x261 => (gX sl xs (v4 + 2)).bind fun x262 => (rcv 12 h v1).bind fun b264 => (mX11_set h b264 x261 x262).bind fun r263 => (gX sl xs (v4 + 1)).bind fun x265 => (gX sl xs (v4 + 2)).bind fun x266 => (rcv 17 r263.2 v2).bind fun b268 => (mX16_set r263.2 b268 x265 x266).bind fun r267 => (if r263.1 = r267.1 then mL_law_l23 sl xs n r267.2 v1 v2 v3 (v4 + 7) else none) else (if (x1 &&& 63) = 23 then (gX sl xs (v4 + 1)).bind fun x270 => (rcv 12 h v1).bind fun b272 => (mX11_shy h b272 x270).bind fun r271 => (gX sl xs (v4 + 1)).bind fun x273 => (rcv 17 r271.2 v2).bind fun b275 => (mX16_shy r271.2 b275 x273).bind fun r274 => (if r271.1 = r274.1 then mL_law_l23 sl xs n r274.2 v1 v2 v3 (v4 + 7) else none) else (if (x1 &&& 63) = 24 then (gX sl xs (v4 + 1)).bind fun x277 => (gX sl xs (v4 + 2)).bind fun x278 => (gX sl xs (v4 + 3)).bind fun x279 => (gX sl xs (v4 + 4)).bind fun x280 => (gX sl xs (v4 + 5)).bind fun x281 => (gX sl xs (v4 + 6)).bind fun x282 => (if x282 = 0 then (rcv 12 h v1).bind fun b284 => (mX11_edge h b284 x277 x278 x279 ((x280.toInt64 <<< ((32 : Int32).toInt64 &&& 63)) ||| (x281.toInt64 &&& 4294967295)) 0).bind fun r283 => (gX sl xs (v4 + 1)).bind fun x285 => (gX sl xs (v4 + 2)).bind fun x286 => (gX sl xs (v4 + 3)).bind fun x287 => (gX sl xs (v4 + 4)).bind fun x288 => (gX sl xs (v4 + 5)).bind fun x289 => (gX sl xs (v4 + 6)).bind fun x290 => (if x290 = 0 then (rcv 17 r283.2 v2).bind fun b292 => (mX16_edge r283.2 b292 x285 x286 x287 ((x288.toInt64 <<< ((32 : Int32).toInt64 &&& 63)) ||| (x289.toInt64 &&& 4294967295)) 0).bind fun r291 => (if r283.1 = r291.1 then mL_law_l23 sl xs n r291.2 v1 v2 v3 (v4 + 7) else none) else (rcv 17 r283.2 v2).bind fun b295 => (mX16_edge r283.2 b295 x285 x286 x287 ((x288.toInt64 <<< ((32 : Int32).toInt64 &&& 63)) ||| (x289.toInt64 &&& 4294967295)) 1).bind fun r294 => (if r283.1 = r294.1 then mL_law_l23 sl xs n r294.2 v1 v2 v3 (v4 + 7) else none)) else (rcv 12 h v1).bind fun b299 => (mX11_edge h b299 x277 x278 x279 ((x280.toInt64 <<< ((32 : Int32).toInt64 &&& 63)) ||| (x281.toInt64 &&& 4294967295)) 1).bind fun r298 => (gX sl xs (v4 + 1)).bind fun x300 => (gX sl xs (v4 + 2)).bind fun x301 => (gX sl xs (v4 + 3)).bind fun x302 => (gX sl xs (v4 + 4)).bind fun x303 => (gX sl xs (v4 + 5)).bind fun x304 => (gX sl xs (v4 + 6)).bind fun x305 => (if x305 = 0 then (rcv 17 r298.2 v2).bind fun b307 => (mX16_edge r298.2 b307 x300 x301 x302 ((x303.toInt64 <<< ((32 : Int32).toInt64 &&& 63)) ||| (x304.toInt64 &&& 4294967295)) 0).bind fun r306 => (if r298.1 = r306.1 then mL_law_l23 sl xs n r306.2 v1 v2 v3 (v4 + 7) else none) else (rcv 17 r298.2 v2).bind fun b310 => (mX16_edge r298.2 b310 x300 x301 x302 ((x303.toInt64 <<< ((32 : Int32).toInt64 &&& 63)) ||| (x304.toInt64 &&& 4294967295)) 1).bind fun r309 => (if r298.1 = r309.1 then mL_law_l23 sl xs n r309.2 v1 v2 v3 (v4 + 7) else none))) else (if (x1 &&& 63) = 25 then (gX sl xs (v4 + 1)).bind fun x314 => (gX sl xs (v4 + 2)).bind fun x315 => (gX sl xs (v4 + 3)).bind fun x316 => (rcv 12 h v1).bind fun b318 => (mX11_wide h b318 x314 ((x315.toInt64 <<< ((32 : Int32).toInt64 &&& 63)) ||| (x316.toInt64 &&& 4294967295))).bind fun r317 => (gX sl xs (v4 + 1)).bind fun x319 => (gX sl xs (v4 + 2)).bind fun x320 => (gX sl xs (v4 + 3)).bind fun x321 => (rcv 17 r317.2 v2).bind fun b323 => (mX16_wide r317.2 b323 x319 ((x320.toInt64 <<< ((32 : Int32).toInt64 &&& 63)) ||| (x321.toInt64 &&& 4294967295))).bind fun r322 => (if r317.1 = r322.1 then mL_law_l23 sl xs n r322.2 v1 v2 v3 (v4 + 7) else none) else (if (x1 &&& 63) = 26 then (gX sl xs (v4 + 1)).bind fun x325 => (rcv 12 h v1).bind fun b327 => (mX11_least h b327 x325).bind fun r326 => (gX sl xs (v4 + 1)).bind fun x328 => (rcv 17 r326.2 v2).bind fun b330 => (mX16_least r326.2 b330 x328).bind fun r329 => (if r326.1 = r329.1 then mL_law_l23 sl xs n r329.2 v1 v2 v3 (v4 + 7) else none) else (if (x1 &&& 63) = 27 then (gX sl xs (v4 + 1)).bind fun x332 => (gX sl xs (v4 + 2)).bind fun x333 => (rcv 12 h v1).bind fun b335 => (mX11_differing h b335 x332 x333).bind fun r334 => (gX sl xs (v4 + 1)).bind fun x336 => (gX sl xs (v4 + 2)).bind fun x337 => (rcv 17 r334.2 v2).bind fun b339 => (mX16_differing r334.2 b339 x336 x337).bind fun r338 => (if r334.1 = r338.1 then mL_law_l23 sl xs n r338.2 v1 v2 v3 (v4 + 7) else none) else (if (x1 &&& 63) = 28 then (gX sl xs (v4 + 1)).bind fun x341 => (rcv 12 h v1).bind fun b343 => (mX11_lot h b343 x341).bind fun r342 => (gX sl xs (v4 + 1)).bind fun x344 => (rcv 17 r342.2 v2).bind fun b346 => (mX16_lot r342.2 b346 x344).bind fun r345 => (if r342.1 = r345.1 then mL_law_l23 sl xs n r345.2 v1 v2 v3 (v4 + 7) else none) else (if (x1 &&& 63) = 29 then (gX sl xs (v4 + 1)).bind fun x348 => (gX sl xs (v4 + 2)).bind fun x349 => (gX sl xs (v4 + 3)).bind fun x350 => (rcv 12 h v1).bind fun b352 => (mX11_noise h b352 x348 x349 x350).bind fun r351 => (gX sl xs (v4 + 1)).bind fun x353 => (gX sl xs (v4 + 2)).bind fun x354 => (gX sl xs (v4 + 3)).bind fun x355 => (rcv 17 r351.2 v2).bind fun b357 => (mX16_noise r351.2 b357 x353 x354 x355).bind fun r356 => (if (lg_cmp r351.1 r356.1) = 0 then mL_law_l23 sl xs n r356.2 v1 v2 v3 (v4 + 7) else none) else (if (x1 &&& 63) = 30 then (gX sl xs (v4 + 1)).bind fun x359 => (gX sl xs (v4 + 2)).bind fun x360 => (gX sl xs (v4 + 3)).bind fun x361 => (gX sl xs (v4 + 4)).bind fun x362 => (mL_led h v1 x359 x360 x361 x362 v3).bind fun r363 => (gX sl xs (v4 + 1)).bind fun x364 => (gX sl xs (v4 + 2)).bind fun x365 => (gX sl xs (v4 + 3)).bind fun x366 => (gX sl xs (v4 + 4)).bind fun x367 => (rcv 17 r363.2 v2).bind fun b369 => (mX16_led r363.2 b369 x364 x365 x366 x367).bind fun r368 => (rcv 17 r368.2 v2).bind fun b371 => (mX16_thrown r368.2 b371).bind fun r370 => (if r370 = r363.1 then (if r363.1 = 0 then (gAL 21 r368.2 v3 0).bind fun x372 => (if (lg_cmp x372 r368.1.toInt64) = 0 then mL_law_l23 sl xs n r368.2 v1 v2 v3 (v4 + 7) else none) else mL_law_l23 sl xs n r368.2 v1 v2 v3 (v4 + 7)) else none) else (if (x1 &&& 63) = 31 then (gX sl xs (v4 + 1)).bind fun x376 => (rcv 12 h v1).bind fun b378 => (mX11_count h b378 x376).bind fun r377 => (gX sl xs (v4 + 1)).bind fun x379 => (rcv 17 r377.2 v2).bind fun b381 => (mX16_count r377.2 b381 x379).bind fun r380 => (if r377.1 = r380.1 then mL_law_l23 sl xs n r380.2 v1 v2 v3 (v4 + 7) else none) else (if (x1 &&& 63) = 32 then (rcv 12 h v1).bind fun b384 => (mX11_trouble h b384).bind fun r383 => (rcv 17 h v2).bind fun b386 => (mX16_trouble h b386).bind fun r385 => (if r383 = r385.1 then mL_law_l23 sl xs n r385.2 v1 v2 v3 (v4 + 7) else none) else mL_law_l23 sl xs n h v1 v2 v3 (v4 + 7)))))))))))))))))))))))))))))))))))
def mL_law (sl : Nat) (xs : Nat → Int32) (h : MHp) : Option MHp := (some (nO h 12 16)).bind fun h389 => (mX11_init h389 (hS h)).bind fun r390 => (some (nO r390 17 51)).bind fun h392 => (mX16_init h392 (hS r390)).bind fun r393 => (some (nA r393 21 1)).bind fun h395 => mL_law_l23 sl xs 513 h395 (some (hS h)) (some (hS r390)) (some (hS r393)) 0
set_option maxRecDepth 100000 in
set_option maxHeartbeats 4000000 in
theorem c_L_law {p : Program} {e : Env} {s : State} {m : MethodId} {below : List Frame} {meth : Method} {c : Code} (l : Launch) (hst : l.stackTraces = false) (G : Env0) (h : MHp) (sl b : Nat) (xs : Nat → Int32) (res : MHp) (hh : mL_law sl xs h = some res) (C : Cx p s m meth c #[Value.ref b] "CountOfficeLaw" 7 cL_law (gD G) (gC G)) (X : Ex G s s.heap) (hr : meth.sig.returnType = ret) (hX : va_X b sl xs s s.heap) (hbs : b < s.heap.size) (hbG : b < gB G) (hgb : s.heap.size ≤ gB G) (hm : mHp (gD G) (gC G) (gB G) h s.heap) {ls : Array Slot} (hl : lv_has ls 7 [(0, .ref b)]) : W p l e LR s m #[Value.ref b] below meth c s.heap [] 0 0 (lw_Z below #[Value.ref b] s) (F0 m 0 ls []) := by
  have hs : va_S (fun q => gB G ≤ q) s.heap s.heap [] := va_S.rf
  have B23 : ∀ n : Nat, n ≤ 513 → ∀ (h : MHp) (H : Heap) (locs : List Loc) (ls : Array Slot) (v1 : Option Nat) (v2 : Option Nat) (v3 : Option Nat) (v4 : Int32) , mHp (gD G) (gC G) (gB G) h H → va_S (fun q => gB G ≤ q) s.heap H locs → lv_has ls 7 [(0, .ref b), (1, va_rf v1), (2, va_rf v2), (3, va_rf v3), (4, .int v4)] → mL_law_l23 sl xs n h v1 v2 v3 v4 = some res → W p l e LR s m #[Value.ref b] below meth c H locs ((513 - n) * 110 + 249) ((513 - n) * 1149 + 11693) (lw_Z below #[Value.ref b] s) (F0 m 23 ls []) := by
    intro n
    induction n with
    | zero => intro hn h H locs ls v1 v2 v3 v4 hm hs hl hh; cases hh
    | succ n ih =>
      intro hn h H locs ls v1 v2 v3 v4 hm hs hl hh
      unfold mL_law_l23 at hh
      refine lv_iload C.1 C.2.1 dL_law_23 (lv_at hl 4 rfl) ?_
      refine lv_aload_n C.1 C.2.1 dL_law_25 rfl (lv_at hl 0 rfl) ?_
      refine va_slen C.1 C.2.1 hX hbs (Nat.not_le.mpr hbG) hs dL_law_26 ?_
      refine lv_bipush (v := 7) C.1 C.2.1 dL_law_27 (by decide) ?_
      refine lv_isub C.1 C.2.1 dL_law_29 ?_
      refine lv_icmp_gt (tgt := 1711) C.1 C.2.1 dL_law_30 (by decide) (fun c388 => ?_) (fun c388 => ?_)
      · rw [if_pos c388] at hh
        refine lv_iconst (v := 1) C.1 C.2.1 dL_law_1711 (by decide) ?_
        exact r_lawret C hr hgb hs dL_law_1712 (by (try simp only); omega) (by (try simp only); omega)
      · rw [if_neg c388] at hh
        refine lv_aload_n C.1 C.2.1 dL_law_33 rfl (lv_at hl 0 rfl) ?_
        refine lv_iload C.1 C.2.1 dL_law_34 (lv_at hl 4 rfl) ?_
        refine r_scr C hX hbs hbG hs dL_law_36 hh (fun x1 _ hh => ?_)
        refine lv_bipush (v := 63) C.1 C.2.1 dL_law_37 (by decide) ?_
        refine lv_iand C.1 C.2.1 dL_law_39 ?_
        by_cases c2_0 : (x1 &&& 63) = 0
        · rw [if_pos c2_0] at hh
          refine r_tsw (tgt := 188) C dL_law_40 c2_0 (by decide) (by decide) rfl (by decide) ?_
          refine r_aload_n C.1 C.2.1 dL_law_188 rfl (lv_at hl 1 rfl) ?_
          refine lv_aload_n C.1 C.2.1 dL_law_189 rfl (lv_at hl 0 rfl) ?_
          refine lv_iload C.1 C.2.1 dL_law_190 (lv_at hl 4 rfl) ?_
          refine lv_iconst (v := 1) C.1 C.2.1 dL_law_192 (by decide) ?_
          refine lv_iadd C.1 C.2.1 dL_law_193 ?_
          refine r_scr C hX hbs hbG hs dL_law_194 hh (fun x3 _ hh => ?_)
          refine lv_aload_n C.1 C.2.1 dL_law_195 rfl (lv_at hl 0 rfl) ?_
          refine lv_iload C.1 C.2.1 dL_law_196 (lv_at hl 4 rfl) ?_
          refine lv_iconst (v := 2) C.1 C.2.1 dL_law_198 (by decide) ?_
          refine lv_iadd C.1 C.2.1 dL_law_199 ?_
          refine r_scr C hX hbs hbG hs dL_law_200 hh (fun x4 _ hh => ?_)
          refine lv_aload_n C.1 C.2.1 dL_law_201 rfl (lv_at hl 0 rfl) ?_
          refine lv_iload C.1 C.2.1 dL_law_202 (lv_at hl 4 rfl) ?_
          refine lv_iconst (v := 3) C.1 C.2.1 dL_law_204 (by decide) ?_
          refine lv_iadd C.1 C.2.1 dL_law_205 ?_
          refine r_scr C hX hbs hbG hs dL_law_206 hh (fun x5 _ hh => ?_)
          refine lv_aload_n C.1 C.2.1 dL_law_207 rfl (lv_at hl 0 rfl) ?_
          refine lv_iload C.1 C.2.1 dL_law_208 (lv_at hl 4 rfl) ?_
          refine lv_iconst (v := 4) C.1 C.2.1 dL_law_210 (by decide) ?_
          refine lv_iadd C.1 C.2.1 dL_law_211 ?_
          refine r_scr C hX hbs hbG hs dL_law_212 hh (fun x6 _ hh => ?_)
          refine lv_aload_n C.1 C.2.1 dL_law_213 rfl (lv_at hl 0 rfl) ?_
          refine lv_iload C.1 C.2.1 dL_law_214 (lv_at hl 4 rfl) ?_
          refine lv_iconst (v := 5) C.1 C.2.1 dL_law_216 (by decide) ?_
          refine lv_iadd C.1 C.2.1 dL_law_217 ?_
          refine r_scr C hX hbs hbG hs dL_law_218 hh (fun x7 _ hh => ?_)
          refine r_cV (hroom := ⟨(show _ ≤ _ by (try simp only [LR]); omega), (show _ ≤ _ by (try simp only [LR]); omega)⟩) C X hm hs mlL_19 mvL_19 hh (vv := fun r => some (.int r.1)) (hp := fun r => r.2) (fun b r hg => c_X11_feed l G h b _ _ _ _ _ r hg) rfl rfl (Nat.le_of_ble_eq_true rfl) (Nat.le_of_ble_eq_true rfl) (Nat.le_of_ble_eq_true rfl) hl.1 dL_law_219 (fun b9 r8 H locs hgr8 hh hm hs => ?_)
          refine W.eq (g2 := F0 m 222 ls [.int r8.1]) rfl ?_
          refine r_aload_n C.1 C.2.1 dL_law_222 rfl (lv_at hl 2 rfl) ?_
          refine lv_aload_n C.1 C.2.1 dL_law_223 rfl (lv_at hl 0 rfl) ?_
          refine lv_iload C.1 C.2.1 dL_law_224 (lv_at hl 4 rfl) ?_
          refine lv_iconst (v := 1) C.1 C.2.1 dL_law_226 (by decide) ?_
          refine lv_iadd C.1 C.2.1 dL_law_227 ?_
          refine r_scr C hX hbs hbG hs dL_law_228 hh (fun x10 _ hh => ?_)
          refine lv_aload_n C.1 C.2.1 dL_law_229 rfl (lv_at hl 0 rfl) ?_
          refine lv_iload C.1 C.2.1 dL_law_230 (lv_at hl 4 rfl) ?_
          refine lv_iconst (v := 2) C.1 C.2.1 dL_law_232 (by decide) ?_
          refine lv_iadd C.1 C.2.1 dL_law_233 ?_
          refine r_scr C hX hbs hbG hs dL_law_234 hh (fun x11 _ hh => ?_)
          refine lv_aload_n C.1 C.2.1 dL_law_235 rfl (lv_at hl 0 rfl) ?_
          refine lv_iload C.1 C.2.1 dL_law_236 (lv_at hl 4 rfl) ?_
          refine lv_iconst (v := 3) C.1 C.2.1 dL_law_238 (by decide) ?_
          refine lv_iadd C.1 C.2.1 dL_law_239 ?_
          refine r_scr C hX hbs hbG hs dL_law_240 hh (fun x12 _ hh => ?_)
          refine lv_aload_n C.1 C.2.1 dL_law_241 rfl (lv_at hl 0 rfl) ?_
          refine lv_iload C.1 C.2.1 dL_law_242 (lv_at hl 4 rfl) ?_
          refine lv_iconst (v := 4) C.1 C.2.1 dL_law_244 (by decide) ?_
          refine lv_iadd C.1 C.2.1 dL_law_245 ?_
          refine r_scr C hX hbs hbG hs dL_law_246 hh (fun x13 _ hh => ?_)
          refine lv_aload_n C.1 C.2.1 dL_law_247 rfl (lv_at hl 0 rfl) ?_
          refine lv_iload C.1 C.2.1 dL_law_248 (lv_at hl 4 rfl) ?_
          refine lv_iconst (v := 5) C.1 C.2.1 dL_law_250 (by decide) ?_
          refine lv_iadd C.1 C.2.1 dL_law_251 ?_
          refine r_scr C hX hbs hbG hs dL_law_252 hh (fun x14 _ hh => ?_)
          refine r_cV (hroom := ⟨(show _ ≤ _ by (try simp only [LR]); omega), (show _ ≤ _ by (try simp only [LR]); omega)⟩) C X hm hs mlL_23 mvL_23 hh (vv := fun r => some (.int r.1)) (hp := fun r => r.2) (fun b r hg => c_X16_feed l G r8.2 b _ _ _ _ _ r hg) rfl rfl (Nat.le_of_ble_eq_true rfl) (Nat.le_of_ble_eq_true rfl) (Nat.le_of_ble_eq_true rfl) hl.1 dL_law_253 (fun b16 r15 H locs hgr15 hh hm hs => ?_)
          refine W.eq (g2 := F0 m 256 ls [.int r15.1, .int r8.1]) rfl ?_
          refine lv_icmp_eq (tgt := 1705) C.1 C.2.1 dL_law_256 (by decide) (fun c17 => ?_) (fun c17 => ?_)
          · rw [if_pos c17] at hh
            refine lv_iinc (v := (v4 + 7)) (lv' := [(4, .int (v4 + 7)), (0, .ref b), (1, va_rf v1), (2, va_rf v2), (3, va_rf v3)]) C.1 C.2.1 dL_law_1705 hl (k := 4) rfl rfl (by decide) (by simp [va_cat, vc_i, vc_l, vc_r]) (fun ls hl => ?_)
            refine lv_goto (tgt := 23) C.1 C.2.1 dL_law_1708 (by decide) ?_
            refine W.widen (k := ((513 - n) * 110 + 249)) (n := ((513 - n) * 1149 + 11693)) (by omega) (by omega) ?_
            exact ih (by omega) _ _ _ _ _ _ _ _  hm hs (lv_sub hl [1, 2, 3, 4, 0] rfl) hh
          · rw [if_neg c17] at hh
            refine lv_iconst (v := 0) C.1 C.2.1 dL_law_259 (by decide) ?_
            cases hh
        · rw [if_neg c2_0] at hh
          by_cases c2_1 : (x1 &&& 63) = 1
          · rw [if_pos c2_1] at hh
            refine r_tsw (tgt := 261) C dL_law_40 c2_1 (by decide) (by decide) rfl (by decide) ?_
            refine r_aload_n C.1 C.2.1 dL_law_261 rfl (lv_at hl 1 rfl) ?_
            refine lv_aload_n C.1 C.2.1 dL_law_262 rfl (lv_at hl 0 rfl) ?_
            refine lv_iload C.1 C.2.1 dL_law_263 (lv_at hl 4 rfl) ?_
            refine lv_iconst (v := 1) C.1 C.2.1 dL_law_265 (by decide) ?_
            refine lv_iadd C.1 C.2.1 dL_law_266 ?_
            refine r_scr C hX hbs hbG hs dL_law_267 hh (fun x18 _ hh => ?_)
            refine r_cV (hroom := ⟨(show _ ≤ _ by (try simp only [LR]); omega), (show _ ≤ _ by (try simp only [LR]); omega)⟩) C X hm hs mlL_24 mvL_24 hh (vv := fun r => some (.int r.1)) (hp := fun r => r.2) (fun b r hg => c_X11_book l G h b _ r hg) rfl rfl (Nat.le_of_ble_eq_true rfl) (Nat.le_of_ble_eq_true rfl) (Nat.le_of_ble_eq_true rfl) hl.1 dL_law_268 (fun b20 r19 H locs hgr19 hh hm hs => ?_)
            refine W.eq (g2 := F0 m 271 ls [.int r19.1]) rfl ?_
            refine r_aload_n C.1 C.2.1 dL_law_271 rfl (lv_at hl 2 rfl) ?_
            refine lv_aload_n C.1 C.2.1 dL_law_272 rfl (lv_at hl 0 rfl) ?_
            refine lv_iload C.1 C.2.1 dL_law_273 (lv_at hl 4 rfl) ?_
            refine lv_iconst (v := 1) C.1 C.2.1 dL_law_275 (by decide) ?_
            refine lv_iadd C.1 C.2.1 dL_law_276 ?_
            refine r_scr C hX hbs hbG hs dL_law_277 hh (fun x21 _ hh => ?_)
            refine r_mV C X hm hs mwL_28 mvL_28 hh (vv := fun r => some (.int r.1)) (hp := fun r => r.2) (fun b r hg => c_X16_book l G r19.2 b _ r hg) rfl rfl (Nat.le_of_ble_eq_true rfl) (Nat.le_of_ble_eq_true rfl) (Nat.le_of_ble_eq_true rfl) ⟨(show _ ≤ _ by (try simp only [LR]); omega), (show _ ≤ _ by (try simp only [LR]); omega)⟩ hl.1 dL_law_278 (fun b23 r22 H locs hgr22 hh hm hs => ?_)
            refine W.eq (g2 := F0 m 281 ls [.int r22.1, .int r19.1]) rfl ?_
            refine lv_icmp_eq (tgt := 1705) C.1 C.2.1 dL_law_281 (by decide) (fun c24 => ?_) (fun c24 => ?_)
            · rw [if_pos c24] at hh
              refine lv_iinc (v := (v4 + 7)) (lv' := [(4, .int (v4 + 7)), (0, .ref b), (1, va_rf v1), (2, va_rf v2), (3, va_rf v3)]) C.1 C.2.1 dL_law_1705 hl (k := 4) rfl rfl (by decide) (by simp [va_cat, vc_i, vc_l, vc_r]) (fun ls hl => ?_)
              refine lv_goto (tgt := 23) C.1 C.2.1 dL_law_1708 (by decide) ?_
              refine W.widen (k := ((513 - n) * 110 + 249)) (n := ((513 - n) * 1149 + 11693)) (by omega) (by omega) ?_
              exact ih (by omega) _ _ _ _ _ _ _ _  hm hs (lv_sub hl [1, 2, 3, 4, 0] rfl) hh
            · rw [if_neg c24] at hh
              refine lv_iconst (v := 0) C.1 C.2.1 dL_law_284 (by decide) ?_
              cases hh
          · rw [if_neg c2_1] at hh
            by_cases c2_2 : (x1 &&& 63) = 2
            · rw [if_pos c2_2] at hh
              refine r_tsw (tgt := 286) C dL_law_40 c2_2 (by decide) (by decide) rfl (by decide) ?_
              refine r_aload_n C.1 C.2.1 dL_law_286 rfl (lv_at hl 1 rfl) ?_
              refine lv_aload_n C.1 C.2.1 dL_law_287 rfl (lv_at hl 0 rfl) ?_
              refine lv_iload C.1 C.2.1 dL_law_288 (lv_at hl 4 rfl) ?_
              refine lv_iconst (v := 1) C.1 C.2.1 dL_law_290 (by decide) ?_
              refine lv_iadd C.1 C.2.1 dL_law_291 ?_
              refine r_scr C hX hbs hbG hs dL_law_292 hh (fun x25 _ hh => ?_)
              refine r_cV (hroom := ⟨(show _ ≤ _ by (try simp only [LR]); omega), (show _ ≤ _ by (try simp only [LR]); omega)⟩) C X hm hs mlL_29 mvL_29 hh (vv := fun r => some (.int r.1)) (hp := fun r => r.2) (fun b r hg => c_X11_table l G h b _ r hg) rfl rfl (Nat.le_of_ble_eq_true rfl) (Nat.le_of_ble_eq_true rfl) (Nat.le_of_ble_eq_true rfl) hl.1 dL_law_293 (fun b27 r26 H locs hgr26 hh hm hs => ?_)
              refine W.eq (g2 := F0 m 296 ls [.int r26.1]) rfl ?_
              refine r_aload_n C.1 C.2.1 dL_law_296 rfl (lv_at hl 2 rfl) ?_
              refine lv_aload_n C.1 C.2.1 dL_law_297 rfl (lv_at hl 0 rfl) ?_
              refine lv_iload C.1 C.2.1 dL_law_298 (lv_at hl 4 rfl) ?_
              refine lv_iconst (v := 1) C.1 C.2.1 dL_law_300 (by decide) ?_
              refine lv_iadd C.1 C.2.1 dL_law_301 ?_
              refine r_scr C hX hbs hbG hs dL_law_302 hh (fun x28 _ hh => ?_)
              refine r_mV C X hm hs mwL_32 mvL_32 hh (vv := fun r => some (.int r.1)) (hp := fun r => r.2) (fun b r hg => c_X16_table l G r26.2 b _ r hg) rfl rfl (Nat.le_of_ble_eq_true rfl) (Nat.le_of_ble_eq_true rfl) (Nat.le_of_ble_eq_true rfl) ⟨(show _ ≤ _ by (try simp only [LR]); omega), (show _ ≤ _ by (try simp only [LR]); omega)⟩ hl.1 dL_law_303 (fun b30 r29 H locs hgr29 hh hm hs => ?_)
              refine W.eq (g2 := F0 m 306 ls [.int r29.1, .int r26.1]) rfl ?_
              refine lv_icmp_eq (tgt := 1705) C.1 C.2.1 dL_law_306 (by decide) (fun c31 => ?_) (fun c31 => ?_)
              · rw [if_pos c31] at hh
                refine lv_iinc (v := (v4 + 7)) (lv' := [(4, .int (v4 + 7)), (0, .ref b), (1, va_rf v1), (2, va_rf v2), (3, va_rf v3)]) C.1 C.2.1 dL_law_1705 hl (k := 4) rfl rfl (by decide) (by simp [va_cat, vc_i, vc_l, vc_r]) (fun ls hl => ?_)
                refine lv_goto (tgt := 23) C.1 C.2.1 dL_law_1708 (by decide) ?_
                refine W.widen (k := ((513 - n) * 110 + 249)) (n := ((513 - n) * 1149 + 11693)) (by omega) (by omega) ?_
                exact ih (by omega) _ _ _ _ _ _ _ _  hm hs (lv_sub hl [1, 2, 3, 4, 0] rfl) hh
              · rw [if_neg c31] at hh
                refine lv_iconst (v := 0) C.1 C.2.1 dL_law_309 (by decide) ?_
                cases hh
            · rw [if_neg c2_2] at hh
              by_cases c2_3 : (x1 &&& 63) = 3
              · rw [if_pos c2_3] at hh
                refine r_tsw (tgt := 311) C dL_law_40 c2_3 (by decide) (by decide) rfl (by decide) ?_
                refine r_aload_n C.1 C.2.1 dL_law_311 rfl (lv_at hl 1 rfl) ?_
                refine r_cV (hroom := ⟨(show _ ≤ _ by (try simp only [LR]); omega), (show _ ≤ _ by (try simp only [LR]); omega)⟩) C X hm hs mlL_33 mvL_33 hh (vv := fun r => some (.int r)) (hp := fun r => h) (fun b r hg => c_X11_fault l G h b  r hg) rfl rfl (Nat.le_of_ble_eq_true rfl) (Nat.le_of_ble_eq_true rfl) (Nat.le_of_ble_eq_true rfl) hl.1 dL_law_312 (fun b33 r32 H locs hgr32 hh hm hs => ?_)
                refine W.eq (g2 := F0 m 315 ls [.int r32]) rfl ?_
                refine r_aload_n C.1 C.2.1 dL_law_315 rfl (lv_at hl 2 rfl) ?_
                refine r_cV (hroom := ⟨(show _ ≤ _ by (try simp only [LR]); omega), (show _ ≤ _ by (try simp only [LR]); omega)⟩) C X hm hs mlL_37 mvL_37 hh (vv := fun r => some (.int r.1)) (hp := fun r => r.2) (fun b r hg => c_X16_fault l G h b  r hg) rfl rfl (Nat.le_of_ble_eq_true rfl) (Nat.le_of_ble_eq_true rfl) (Nat.le_of_ble_eq_true rfl) hl.1 dL_law_316 (fun b35 r34 H locs hgr34 hh hm hs => ?_)
                refine W.eq (g2 := F0 m 319 ls [.int r34.1, .int r32]) rfl ?_
                refine lv_icmp_eq (tgt := 1705) C.1 C.2.1 dL_law_319 (by decide) (fun c36 => ?_) (fun c36 => ?_)
                · rw [if_pos c36] at hh
                  refine lv_iinc (v := (v4 + 7)) (lv' := [(4, .int (v4 + 7)), (0, .ref b), (1, va_rf v1), (2, va_rf v2), (3, va_rf v3)]) C.1 C.2.1 dL_law_1705 hl (k := 4) rfl rfl (by decide) (by simp [va_cat, vc_i, vc_l, vc_r]) (fun ls hl => ?_)
                  refine lv_goto (tgt := 23) C.1 C.2.1 dL_law_1708 (by decide) ?_
                  refine W.widen (k := ((513 - n) * 110 + 249)) (n := ((513 - n) * 1149 + 11693)) (by omega) (by omega) ?_
                  exact ih (by omega) _ _ _ _ _ _ _ _  hm hs (lv_sub hl [1, 2, 3, 4, 0] rfl) hh
                · rw [if_neg c36] at hh
                  refine lv_iconst (v := 0) C.1 C.2.1 dL_law_322 (by decide) ?_
                  cases hh
              · rw [if_neg c2_3] at hh
                by_cases c2_4 : (x1 &&& 63) = 4
                · rw [if_pos c2_4] at hh
                  refine r_tsw (tgt := 324) C dL_law_40 c2_4 (by decide) (by decide) rfl (by decide) ?_
                  refine r_aload_n C.1 C.2.1 dL_law_324 rfl (lv_at hl 1 rfl) ?_
                  refine r_cV (hroom := ⟨(show _ ≤ _ by (try simp only [LR]); omega), (show _ ≤ _ by (try simp only [LR]); omega)⟩) C X hm hs mlL_38 mvL_38 hh (vv := fun r => some (.int r)) (hp := fun r => h) (fun b r hg => c_X11_where l G h b  r hg) rfl rfl (Nat.le_of_ble_eq_true rfl) (Nat.le_of_ble_eq_true rfl) (Nat.le_of_ble_eq_true rfl) hl.1 dL_law_325 (fun b38 r37 H locs hgr37 hh hm hs => ?_)
                  refine W.eq (g2 := F0 m 328 ls [.int r37]) rfl ?_
                  refine r_aload_n C.1 C.2.1 dL_law_328 rfl (lv_at hl 2 rfl) ?_
                  refine r_cV (hroom := ⟨(show _ ≤ _ by (try simp only [LR]); omega), (show _ ≤ _ by (try simp only [LR]); omega)⟩) C X hm hs mlL_41 mvL_41 hh (vv := fun r => some (.int r.1)) (hp := fun r => r.2) (fun b r hg => c_X16_where l G h b  r hg) rfl rfl (Nat.le_of_ble_eq_true rfl) (Nat.le_of_ble_eq_true rfl) (Nat.le_of_ble_eq_true rfl) hl.1 dL_law_329 (fun b40 r39 H locs hgr39 hh hm hs => ?_)
                  refine W.eq (g2 := F0 m 332 ls [.int r39.1, .int r37]) rfl ?_
                  refine lv_icmp_eq (tgt := 1705) C.1 C.2.1 dL_law_332 (by decide) (fun c41 => ?_) (fun c41 => ?_)
                  · rw [if_pos c41] at hh
                    refine lv_iinc (v := (v4 + 7)) (lv' := [(4, .int (v4 + 7)), (0, .ref b), (1, va_rf v1), (2, va_rf v2), (3, va_rf v3)]) C.1 C.2.1 dL_law_1705 hl (k := 4) rfl rfl (by decide) (by simp [va_cat, vc_i, vc_l, vc_r]) (fun ls hl => ?_)
                    refine lv_goto (tgt := 23) C.1 C.2.1 dL_law_1708 (by decide) ?_
                    refine W.widen (k := ((513 - n) * 110 + 249)) (n := ((513 - n) * 1149 + 11693)) (by omega) (by omega) ?_
                    exact ih (by omega) _ _ _ _ _ _ _ _  hm hs (lv_sub hl [1, 2, 3, 4, 0] rfl) hh
                  · rw [if_neg c41] at hh
                    refine lv_iconst (v := 0) C.1 C.2.1 dL_law_335 (by decide) ?_
                    cases hh
                · rw [if_neg c2_4] at hh
                  by_cases c2_5 : (x1 &&& 63) = 5
                  · rw [if_pos c2_5] at hh
                    refine r_tsw (tgt := 337) C dL_law_40 c2_5 (by decide) (by decide) rfl (by decide) ?_
                    refine r_aload_n C.1 C.2.1 dL_law_337 rfl (lv_at hl 1 rfl) ?_
                    refine lv_aload_n C.1 C.2.1 dL_law_338 rfl (lv_at hl 0 rfl) ?_
                    refine lv_iload C.1 C.2.1 dL_law_339 (lv_at hl 4 rfl) ?_
                    refine lv_iconst (v := 1) C.1 C.2.1 dL_law_341 (by decide) ?_
                    refine lv_iadd C.1 C.2.1 dL_law_342 ?_
                    refine r_scr C hX hbs hbG hs dL_law_343 hh (fun x42 _ hh => ?_)
                    refine lv_aload_n C.1 C.2.1 dL_law_344 rfl (lv_at hl 0 rfl) ?_
                    refine lv_iload C.1 C.2.1 dL_law_345 (lv_at hl 4 rfl) ?_
                    refine lv_iconst (v := 2) C.1 C.2.1 dL_law_347 (by decide) ?_
                    refine lv_iadd C.1 C.2.1 dL_law_348 ?_
                    refine r_scr C hX hbs hbG hs dL_law_349 hh (fun x43 _ hh => ?_)
                    refine r_cV (hroom := ⟨(show _ ≤ _ by (try simp only [LR]); omega), (show _ ≤ _ by (try simp only [LR]); omega)⟩) C X hm hs mlL_42 mvL_42 hh (vv := fun r => some (.int r)) (hp := fun r => h) (fun b r hg => c_X11_field l G h b _ _ r hg) rfl rfl (Nat.le_of_ble_eq_true rfl) (Nat.le_of_ble_eq_true rfl) (Nat.le_of_ble_eq_true rfl) hl.1 dL_law_350 (fun b45 r44 H locs hgr44 hh hm hs => ?_)
                    refine W.eq (g2 := F0 m 353 ls [.int r44]) rfl ?_
                    refine r_aload_n C.1 C.2.1 dL_law_353 rfl (lv_at hl 2 rfl) ?_
                    refine lv_aload_n C.1 C.2.1 dL_law_354 rfl (lv_at hl 0 rfl) ?_
                    refine lv_iload C.1 C.2.1 dL_law_355 (lv_at hl 4 rfl) ?_
                    refine lv_iconst (v := 1) C.1 C.2.1 dL_law_357 (by decide) ?_
                    refine lv_iadd C.1 C.2.1 dL_law_358 ?_
                    refine r_scr C hX hbs hbG hs dL_law_359 hh (fun x46 _ hh => ?_)
                    refine lv_aload_n C.1 C.2.1 dL_law_360 rfl (lv_at hl 0 rfl) ?_
                    refine lv_iload C.1 C.2.1 dL_law_361 (lv_at hl 4 rfl) ?_
                    refine lv_iconst (v := 2) C.1 C.2.1 dL_law_363 (by decide) ?_
                    refine lv_iadd C.1 C.2.1 dL_law_364 ?_
                    refine r_scr C hX hbs hbG hs dL_law_365 hh (fun x47 _ hh => ?_)
                    refine r_cV (hroom := ⟨(show _ ≤ _ by (try simp only [LR]); omega), (show _ ≤ _ by (try simp only [LR]); omega)⟩) C X hm hs mlL_46 mvL_46 hh (vv := fun r => some (.int r.1)) (hp := fun r => r.2) (fun b r hg => c_X16_field l G h b _ _ r hg) rfl rfl (Nat.le_of_ble_eq_true rfl) (Nat.le_of_ble_eq_true rfl) (Nat.le_of_ble_eq_true rfl) hl.1 dL_law_366 (fun b49 r48 H locs hgr48 hh hm hs => ?_)
                    refine W.eq (g2 := F0 m 369 ls [.int r48.1, .int r44]) rfl ?_
                    refine lv_icmp_eq (tgt := 1705) C.1 C.2.1 dL_law_369 (by decide) (fun c50 => ?_) (fun c50 => ?_)
                    · rw [if_pos c50] at hh
                      refine lv_iinc (v := (v4 + 7)) (lv' := [(4, .int (v4 + 7)), (0, .ref b), (1, va_rf v1), (2, va_rf v2), (3, va_rf v3)]) C.1 C.2.1 dL_law_1705 hl (k := 4) rfl rfl (by decide) (by simp [va_cat, vc_i, vc_l, vc_r]) (fun ls hl => ?_)
                      refine lv_goto (tgt := 23) C.1 C.2.1 dL_law_1708 (by decide) ?_
                      refine W.widen (k := ((513 - n) * 110 + 249)) (n := ((513 - n) * 1149 + 11693)) (by omega) (by omega) ?_
                      exact ih (by omega) _ _ _ _ _ _ _ _  hm hs (lv_sub hl [1, 2, 3, 4, 0] rfl) hh
                    · rw [if_neg c50] at hh
                      refine lv_iconst (v := 0) C.1 C.2.1 dL_law_372 (by decide) ?_
                      cases hh
                  · rw [if_neg c2_5] at hh
                    by_cases c2_6 : (x1 &&& 63) = 6
                    · rw [if_pos c2_6] at hh
                      refine r_tsw (tgt := 374) C dL_law_40 c2_6 (by decide) (by decide) rfl (by decide) ?_
                      refine r_aload_n C.1 C.2.1 dL_law_374 rfl (lv_at hl 1 rfl) ?_
                      refine lv_aload_n C.1 C.2.1 dL_law_375 rfl (lv_at hl 0 rfl) ?_
                      refine lv_iload C.1 C.2.1 dL_law_376 (lv_at hl 4 rfl) ?_
                      refine lv_iconst (v := 1) C.1 C.2.1 dL_law_378 (by decide) ?_
                      refine lv_iadd C.1 C.2.1 dL_law_379 ?_
                      refine r_scr C hX hbs hbG hs dL_law_380 hh (fun x51 _ hh => ?_)
                      refine lv_aload_n C.1 C.2.1 dL_law_381 rfl (lv_at hl 0 rfl) ?_
                      refine lv_iload C.1 C.2.1 dL_law_382 (lv_at hl 4 rfl) ?_
                      refine lv_iconst (v := 2) C.1 C.2.1 dL_law_384 (by decide) ?_
                      refine lv_iadd C.1 C.2.1 dL_law_385 ?_
                      refine r_scr C hX hbs hbG hs dL_law_386 hh (fun x52 _ hh => ?_)
                      refine lv_aload_n C.1 C.2.1 dL_law_387 rfl (lv_at hl 0 rfl) ?_
                      refine lv_iload C.1 C.2.1 dL_law_388 (lv_at hl 4 rfl) ?_
                      refine lv_iconst (v := 3) C.1 C.2.1 dL_law_390 (by decide) ?_
                      refine lv_iadd C.1 C.2.1 dL_law_391 ?_
                      refine r_scr C hX hbs hbG hs dL_law_392 hh (fun x53 _ hh => ?_)
                      refine lv_aload_n C.1 C.2.1 dL_law_393 rfl (lv_at hl 0 rfl) ?_
                      refine lv_iload C.1 C.2.1 dL_law_394 (lv_at hl 4 rfl) ?_
                      refine lv_iconst (v := 4) C.1 C.2.1 dL_law_396 (by decide) ?_
                      refine lv_iadd C.1 C.2.1 dL_law_397 ?_
                      refine r_scr C hX hbs hbG hs dL_law_398 hh (fun x54 _ hh => ?_)
                      refine lv_aload_n C.1 C.2.1 dL_law_399 rfl (lv_at hl 0 rfl) ?_
                      refine lv_iload C.1 C.2.1 dL_law_400 (lv_at hl 4 rfl) ?_
                      refine lv_iconst (v := 5) C.1 C.2.1 dL_law_402 (by decide) ?_
                      refine lv_iadd C.1 C.2.1 dL_law_403 ?_
                      refine r_scr C hX hbs hbG hs dL_law_404 hh (fun x55 _ hh => ?_)
                      refine lv_aload_n C.1 C.2.1 dL_law_405 rfl (lv_at hl 0 rfl) ?_
                      refine lv_iload C.1 C.2.1 dL_law_406 (lv_at hl 4 rfl) ?_
                      refine lv_bipush (v := 6) C.1 C.2.1 dL_law_408 (by decide) ?_
                      refine lv_iadd C.1 C.2.1 dL_law_410 ?_
                      refine r_scr C hX hbs hbG hs dL_law_411 hh (fun x56 _ hh => ?_)
                      refine r_cV (hroom := ⟨(show _ ≤ _ by (try simp only [LR]); omega), (show _ ≤ _ by (try simp only [LR]); omega)⟩) C X hm hs mlL_47 mvL_47 hh (vv := fun r => some (.int r.1)) (hp := fun r => r.2) (fun b r hg => c_X11_row l G h b _ _ _ _ _ _ r hg) rfl rfl (Nat.le_of_ble_eq_true rfl) (Nat.le_of_ble_eq_true rfl) (Nat.le_of_ble_eq_true rfl) hl.1 dL_law_412 (fun b58 r57 H locs hgr57 hh hm hs => ?_)
                      refine W.eq (g2 := F0 m 415 ls [.int r57.1]) rfl ?_
                      refine r_aload_n C.1 C.2.1 dL_law_415 rfl (lv_at hl 2 rfl) ?_
                      refine lv_aload_n C.1 C.2.1 dL_law_416 rfl (lv_at hl 0 rfl) ?_
                      refine lv_iload C.1 C.2.1 dL_law_417 (lv_at hl 4 rfl) ?_
                      refine lv_iconst (v := 1) C.1 C.2.1 dL_law_419 (by decide) ?_
                      refine lv_iadd C.1 C.2.1 dL_law_420 ?_
                      refine r_scr C hX hbs hbG hs dL_law_421 hh (fun x59 _ hh => ?_)
                      refine lv_aload_n C.1 C.2.1 dL_law_422 rfl (lv_at hl 0 rfl) ?_
                      refine lv_iload C.1 C.2.1 dL_law_423 (lv_at hl 4 rfl) ?_
                      refine lv_iconst (v := 2) C.1 C.2.1 dL_law_425 (by decide) ?_
                      refine lv_iadd C.1 C.2.1 dL_law_426 ?_
                      refine r_scr C hX hbs hbG hs dL_law_427 hh (fun x60 _ hh => ?_)
                      refine lv_aload_n C.1 C.2.1 dL_law_428 rfl (lv_at hl 0 rfl) ?_
                      refine lv_iload C.1 C.2.1 dL_law_429 (lv_at hl 4 rfl) ?_
                      refine lv_iconst (v := 3) C.1 C.2.1 dL_law_431 (by decide) ?_
                      refine lv_iadd C.1 C.2.1 dL_law_432 ?_
                      refine r_scr C hX hbs hbG hs dL_law_433 hh (fun x61 _ hh => ?_)
                      refine lv_aload_n C.1 C.2.1 dL_law_434 rfl (lv_at hl 0 rfl) ?_
                      refine lv_iload C.1 C.2.1 dL_law_435 (lv_at hl 4 rfl) ?_
                      refine lv_iconst (v := 4) C.1 C.2.1 dL_law_437 (by decide) ?_
                      refine lv_iadd C.1 C.2.1 dL_law_438 ?_
                      refine r_scr C hX hbs hbG hs dL_law_439 hh (fun x62 _ hh => ?_)
                      refine lv_aload_n C.1 C.2.1 dL_law_440 rfl (lv_at hl 0 rfl) ?_
                      refine lv_iload C.1 C.2.1 dL_law_441 (lv_at hl 4 rfl) ?_
                      refine lv_iconst (v := 5) C.1 C.2.1 dL_law_443 (by decide) ?_
                      refine lv_iadd C.1 C.2.1 dL_law_444 ?_
                      refine r_scr C hX hbs hbG hs dL_law_445 hh (fun x63 _ hh => ?_)
                      refine lv_aload_n C.1 C.2.1 dL_law_446 rfl (lv_at hl 0 rfl) ?_
                      refine lv_iload C.1 C.2.1 dL_law_447 (lv_at hl 4 rfl) ?_
                      refine lv_bipush (v := 6) C.1 C.2.1 dL_law_449 (by decide) ?_
                      refine lv_iadd C.1 C.2.1 dL_law_451 ?_
                      refine r_scr C hX hbs hbG hs dL_law_452 hh (fun x64 _ hh => ?_)
                      refine r_cV (hroom := ⟨(show _ ≤ _ by (try simp only [LR]); omega), (show _ ≤ _ by (try simp only [LR]); omega)⟩) C X hm hs mlL_51 mvL_51 hh (vv := fun r => some (.int r.1)) (hp := fun r => r.2) (fun b r hg => c_X16_row l G r57.2 b _ _ _ _ _ _ r hg) rfl rfl (Nat.le_of_ble_eq_true rfl) (Nat.le_of_ble_eq_true rfl) (Nat.le_of_ble_eq_true rfl) hl.1 dL_law_453 (fun b66 r65 H locs hgr65 hh hm hs => ?_)
                      refine W.eq (g2 := F0 m 456 ls [.int r65.1, .int r57.1]) rfl ?_
                      refine lv_icmp_eq (tgt := 1705) C.1 C.2.1 dL_law_456 (by decide) (fun c67 => ?_) (fun c67 => ?_)
                      · rw [if_pos c67] at hh
                        refine lv_iinc (v := (v4 + 7)) (lv' := [(4, .int (v4 + 7)), (0, .ref b), (1, va_rf v1), (2, va_rf v2), (3, va_rf v3)]) C.1 C.2.1 dL_law_1705 hl (k := 4) rfl rfl (by decide) (by simp [va_cat, vc_i, vc_l, vc_r]) (fun ls hl => ?_)
                        refine lv_goto (tgt := 23) C.1 C.2.1 dL_law_1708 (by decide) ?_
                        refine W.widen (k := ((513 - n) * 110 + 249)) (n := ((513 - n) * 1149 + 11693)) (by omega) (by omega) ?_
                        exact ih (by omega) _ _ _ _ _ _ _ _  hm hs (lv_sub hl [1, 2, 3, 4, 0] rfl) hh
                      · rw [if_neg c67] at hh
                        refine lv_iconst (v := 0) C.1 C.2.1 dL_law_459 (by decide) ?_
                        cases hh
                    · rw [if_neg c2_6] at hh
                      by_cases c2_7 : (x1 &&& 63) = 7
                      · rw [if_pos c2_7] at hh
                        refine r_tsw (tgt := 461) C dL_law_40 c2_7 (by decide) (by decide) rfl (by decide) ?_
                        refine r_aload_n C.1 C.2.1 dL_law_461 rfl (lv_at hl 1 rfl) ?_
                        refine lv_aload_n C.1 C.2.1 dL_law_462 rfl (lv_at hl 0 rfl) ?_
                        refine lv_iload C.1 C.2.1 dL_law_463 (lv_at hl 4 rfl) ?_
                        refine lv_iconst (v := 1) C.1 C.2.1 dL_law_465 (by decide) ?_
                        refine lv_iadd C.1 C.2.1 dL_law_466 ?_
                        refine r_scr C hX hbs hbG hs dL_law_467 hh (fun x68 _ hh => ?_)
                        refine lv_aload_n C.1 C.2.1 dL_law_468 rfl (lv_at hl 0 rfl) ?_
                        refine lv_iload C.1 C.2.1 dL_law_469 (lv_at hl 4 rfl) ?_
                        refine lv_iconst (v := 2) C.1 C.2.1 dL_law_471 (by decide) ?_
                        refine lv_iadd C.1 C.2.1 dL_law_472 ?_
                        refine r_scr C hX hbs hbG hs dL_law_473 hh (fun x69 _ hh => ?_)
                        refine r_cV (hroom := ⟨(show _ ≤ _ by (try simp only [LR]); omega), (show _ ≤ _ by (try simp only [LR]); omega)⟩) C X hm hs mlL_52 mvL_52 hh (vv := fun r => some (.int r.1)) (hp := fun r => r.2) (fun b r hg => c_X11_weight l G h b _ _ r hg) rfl rfl (Nat.le_of_ble_eq_true rfl) (Nat.le_of_ble_eq_true rfl) (Nat.le_of_ble_eq_true rfl) hl.1 dL_law_474 (fun b71 r70 H locs hgr70 hh hm hs => ?_)
                        refine W.eq (g2 := F0 m 477 ls [.int r70.1]) rfl ?_
                        refine r_aload_n C.1 C.2.1 dL_law_477 rfl (lv_at hl 2 rfl) ?_
                        refine lv_aload_n C.1 C.2.1 dL_law_478 rfl (lv_at hl 0 rfl) ?_
                        refine lv_iload C.1 C.2.1 dL_law_479 (lv_at hl 4 rfl) ?_
                        refine lv_iconst (v := 1) C.1 C.2.1 dL_law_481 (by decide) ?_
                        refine lv_iadd C.1 C.2.1 dL_law_482 ?_
                        refine r_scr C hX hbs hbG hs dL_law_483 hh (fun x72 _ hh => ?_)
                        refine lv_aload_n C.1 C.2.1 dL_law_484 rfl (lv_at hl 0 rfl) ?_
                        refine lv_iload C.1 C.2.1 dL_law_485 (lv_at hl 4 rfl) ?_
                        refine lv_iconst (v := 2) C.1 C.2.1 dL_law_487 (by decide) ?_
                        refine lv_iadd C.1 C.2.1 dL_law_488 ?_
                        refine r_scr C hX hbs hbG hs dL_law_489 hh (fun x73 _ hh => ?_)
                        refine r_cV (hroom := ⟨(show _ ≤ _ by (try simp only [LR]); omega), (show _ ≤ _ by (try simp only [LR]); omega)⟩) C X hm hs mlL_56 mvL_56 hh (vv := fun r => some (.int r.1)) (hp := fun r => r.2) (fun b r hg => c_X16_weight l G r70.2 b _ _ r hg) rfl rfl (Nat.le_of_ble_eq_true rfl) (Nat.le_of_ble_eq_true rfl) (Nat.le_of_ble_eq_true rfl) hl.1 dL_law_490 (fun b75 r74 H locs hgr74 hh hm hs => ?_)
                        refine W.eq (g2 := F0 m 493 ls [.int r74.1, .int r70.1]) rfl ?_
                        refine lv_icmp_eq (tgt := 1705) C.1 C.2.1 dL_law_493 (by decide) (fun c76 => ?_) (fun c76 => ?_)
                        · rw [if_pos c76] at hh
                          refine lv_iinc (v := (v4 + 7)) (lv' := [(4, .int (v4 + 7)), (0, .ref b), (1, va_rf v1), (2, va_rf v2), (3, va_rf v3)]) C.1 C.2.1 dL_law_1705 hl (k := 4) rfl rfl (by decide) (by simp [va_cat, vc_i, vc_l, vc_r]) (fun ls hl => ?_)
                          refine lv_goto (tgt := 23) C.1 C.2.1 dL_law_1708 (by decide) ?_
                          refine W.widen (k := ((513 - n) * 110 + 249)) (n := ((513 - n) * 1149 + 11693)) (by omega) (by omega) ?_
                          exact ih (by omega) _ _ _ _ _ _ _ _  hm hs (lv_sub hl [1, 2, 3, 4, 0] rfl) hh
                        · rw [if_neg c76] at hh
                          refine lv_iconst (v := 0) C.1 C.2.1 dL_law_496 (by decide) ?_
                          cases hh
                      · rw [if_neg c2_7] at hh
                        by_cases c2_8 : (x1 &&& 63) = 8
                        · rw [if_pos c2_8] at hh
                          refine r_tsw (tgt := 498) C dL_law_40 c2_8 (by decide) (by decide) rfl (by decide) ?_
                          refine r_aload_n C.1 C.2.1 dL_law_498 rfl (lv_at hl 1 rfl) ?_
                          refine lv_aload_n C.1 C.2.1 dL_law_499 rfl (lv_at hl 0 rfl) ?_
                          refine lv_iload C.1 C.2.1 dL_law_500 (lv_at hl 4 rfl) ?_
                          refine lv_iconst (v := 1) C.1 C.2.1 dL_law_502 (by decide) ?_
                          refine lv_iadd C.1 C.2.1 dL_law_503 ?_
                          refine r_scr C hX hbs hbG hs dL_law_504 hh (fun x77 _ hh => ?_)
                          refine r_cV (hroom := ⟨(show _ ≤ _ by (try simp only [LR]); omega), (show _ ≤ _ by (try simp only [LR]); omega)⟩) C X hm hs mlL_57 mvL_57 hh (vv := fun r => some (.int r.1)) (hp := fun r => r.2) (fun b r hg => c_X11_withdraw l G h b _ r hg) rfl rfl (Nat.le_of_ble_eq_true rfl) (Nat.le_of_ble_eq_true rfl) (Nat.le_of_ble_eq_true rfl) hl.1 dL_law_505 (fun b79 r78 H locs hgr78 hh hm hs => ?_)
                          refine W.eq (g2 := F0 m 508 ls [.int r78.1]) rfl ?_
                          refine r_aload_n C.1 C.2.1 dL_law_508 rfl (lv_at hl 2 rfl) ?_
                          refine lv_aload_n C.1 C.2.1 dL_law_509 rfl (lv_at hl 0 rfl) ?_
                          refine lv_iload C.1 C.2.1 dL_law_510 (lv_at hl 4 rfl) ?_
                          refine lv_iconst (v := 1) C.1 C.2.1 dL_law_512 (by decide) ?_
                          refine lv_iadd C.1 C.2.1 dL_law_513 ?_
                          refine r_scr C hX hbs hbG hs dL_law_514 hh (fun x80 _ hh => ?_)
                          refine r_cV (hroom := ⟨(show _ ≤ _ by (try simp only [LR]); omega), (show _ ≤ _ by (try simp only [LR]); omega)⟩) C X hm hs mlL_61 mvL_61 hh (vv := fun r => some (.int r.1)) (hp := fun r => r.2) (fun b r hg => c_X16_withdraw l G r78.2 b _ r hg) rfl rfl (Nat.le_of_ble_eq_true rfl) (Nat.le_of_ble_eq_true rfl) (Nat.le_of_ble_eq_true rfl) hl.1 dL_law_515 (fun b82 r81 H locs hgr81 hh hm hs => ?_)
                          refine W.eq (g2 := F0 m 518 ls [.int r81.1, .int r78.1]) rfl ?_
                          refine lv_icmp_eq (tgt := 1705) C.1 C.2.1 dL_law_518 (by decide) (fun c83 => ?_) (fun c83 => ?_)
                          · rw [if_pos c83] at hh
                            refine lv_iinc (v := (v4 + 7)) (lv' := [(4, .int (v4 + 7)), (0, .ref b), (1, va_rf v1), (2, va_rf v2), (3, va_rf v3)]) C.1 C.2.1 dL_law_1705 hl (k := 4) rfl rfl (by decide) (by simp [va_cat, vc_i, vc_l, vc_r]) (fun ls hl => ?_)
                            refine lv_goto (tgt := 23) C.1 C.2.1 dL_law_1708 (by decide) ?_
                            refine W.widen (k := ((513 - n) * 110 + 249)) (n := ((513 - n) * 1149 + 11693)) (by omega) (by omega) ?_
                            exact ih (by omega) _ _ _ _ _ _ _ _  hm hs (lv_sub hl [1, 2, 3, 4, 0] rfl) hh
                          · rw [if_neg c83] at hh
                            refine lv_iconst (v := 0) C.1 C.2.1 dL_law_521 (by decide) ?_
                            cases hh
                        · rw [if_neg c2_8] at hh
                          by_cases c2_9 : (x1 &&& 63) = 9
                          · rw [if_pos c2_9] at hh
                            refine r_tsw (tgt := 523) C dL_law_40 c2_9 (by decide) (by decide) rfl (by decide) ?_
                            refine r_aload_n C.1 C.2.1 dL_law_523 rfl (lv_at hl 1 rfl) ?_
                            refine lv_aload_n C.1 C.2.1 dL_law_524 rfl (lv_at hl 0 rfl) ?_
                            refine lv_iload C.1 C.2.1 dL_law_525 (lv_at hl 4 rfl) ?_
                            refine lv_iconst (v := 1) C.1 C.2.1 dL_law_527 (by decide) ?_
                            refine lv_iadd C.1 C.2.1 dL_law_528 ?_
                            refine r_scr C hX hbs hbG hs dL_law_529 hh (fun x84 _ hh => ?_)
                            refine lv_aload_n C.1 C.2.1 dL_law_530 rfl (lv_at hl 0 rfl) ?_
                            refine lv_iload C.1 C.2.1 dL_law_531 (lv_at hl 4 rfl) ?_
                            refine lv_iconst (v := 2) C.1 C.2.1 dL_law_533 (by decide) ?_
                            refine lv_iadd C.1 C.2.1 dL_law_534 ?_
                            refine r_scr C hX hbs hbG hs dL_law_535 hh (fun x85 _ hh => ?_)
                            refine lv_aload_n C.1 C.2.1 dL_law_536 rfl (lv_at hl 0 rfl) ?_
                            refine lv_iload C.1 C.2.1 dL_law_537 (lv_at hl 4 rfl) ?_
                            refine lv_iconst (v := 3) C.1 C.2.1 dL_law_539 (by decide) ?_
                            refine lv_iadd C.1 C.2.1 dL_law_540 ?_
                            refine r_scr C hX hbs hbG hs dL_law_541 hh (fun x86 _ hh => ?_)
                            refine lv_aload_n C.1 C.2.1 dL_law_542 rfl (lv_at hl 0 rfl) ?_
                            refine lv_iload C.1 C.2.1 dL_law_543 (lv_at hl 4 rfl) ?_
                            refine lv_iconst (v := 4) C.1 C.2.1 dL_law_545 (by decide) ?_
                            refine lv_iadd C.1 C.2.1 dL_law_546 ?_
                            refine r_scr C hX hbs hbG hs dL_law_547 hh (fun x87 _ hh => ?_)
                            refine r_cV (hroom := ⟨(show _ ≤ _ by (try simp only [LR]); omega), (show _ ≤ _ by (try simp only [LR]); omega)⟩) C X hm hs mlL_62 mvL_62 hh (vv := fun r => some (.int r)) (hp := fun r => h) (fun b r hg => c_X11_value l G h b _ _ _ _ r hg) rfl rfl (Nat.le_of_ble_eq_true rfl) (Nat.le_of_ble_eq_true rfl) (Nat.le_of_ble_eq_true rfl) hl.1 dL_law_548 (fun b89 r88 H locs hgr88 hh hm hs => ?_)
                            refine W.eq (g2 := F0 m 551 ls [.int r88]) rfl ?_
                            refine r_aload_n C.1 C.2.1 dL_law_551 rfl (lv_at hl 2 rfl) ?_
                            refine lv_aload_n C.1 C.2.1 dL_law_552 rfl (lv_at hl 0 rfl) ?_
                            refine lv_iload C.1 C.2.1 dL_law_553 (lv_at hl 4 rfl) ?_
                            refine lv_iconst (v := 1) C.1 C.2.1 dL_law_555 (by decide) ?_
                            refine lv_iadd C.1 C.2.1 dL_law_556 ?_
                            refine r_scr C hX hbs hbG hs dL_law_557 hh (fun x90 _ hh => ?_)
                            refine lv_aload_n C.1 C.2.1 dL_law_558 rfl (lv_at hl 0 rfl) ?_
                            refine lv_iload C.1 C.2.1 dL_law_559 (lv_at hl 4 rfl) ?_
                            refine lv_iconst (v := 2) C.1 C.2.1 dL_law_561 (by decide) ?_
                            refine lv_iadd C.1 C.2.1 dL_law_562 ?_
                            refine r_scr C hX hbs hbG hs dL_law_563 hh (fun x91 _ hh => ?_)
                            refine lv_aload_n C.1 C.2.1 dL_law_564 rfl (lv_at hl 0 rfl) ?_
                            refine lv_iload C.1 C.2.1 dL_law_565 (lv_at hl 4 rfl) ?_
                            refine lv_iconst (v := 3) C.1 C.2.1 dL_law_567 (by decide) ?_
                            refine lv_iadd C.1 C.2.1 dL_law_568 ?_
                            refine r_scr C hX hbs hbG hs dL_law_569 hh (fun x92 _ hh => ?_)
                            refine lv_aload_n C.1 C.2.1 dL_law_570 rfl (lv_at hl 0 rfl) ?_
                            refine lv_iload C.1 C.2.1 dL_law_571 (lv_at hl 4 rfl) ?_
                            refine lv_iconst (v := 4) C.1 C.2.1 dL_law_573 (by decide) ?_
                            refine lv_iadd C.1 C.2.1 dL_law_574 ?_
                            refine r_scr C hX hbs hbG hs dL_law_575 hh (fun x93 _ hh => ?_)
                            refine r_cV (hroom := ⟨(show _ ≤ _ by (try simp only [LR]); omega), (show _ ≤ _ by (try simp only [LR]); omega)⟩) C X hm hs mlL_65 mvL_65 hh (vv := fun r => some (.int r.1)) (hp := fun r => r.2) (fun b r hg => c_X16_value l G h b _ _ _ _ r hg) rfl rfl (Nat.le_of_ble_eq_true rfl) (Nat.le_of_ble_eq_true rfl) (Nat.le_of_ble_eq_true rfl) hl.1 dL_law_576 (fun b95 r94 H locs hgr94 hh hm hs => ?_)
                            refine W.eq (g2 := F0 m 579 ls [.int r94.1, .int r88]) rfl ?_
                            refine lv_icmp_eq (tgt := 1705) C.1 C.2.1 dL_law_579 (by decide) (fun c96 => ?_) (fun c96 => ?_)
                            · rw [if_pos c96] at hh
                              refine lv_iinc (v := (v4 + 7)) (lv' := [(4, .int (v4 + 7)), (0, .ref b), (1, va_rf v1), (2, va_rf v2), (3, va_rf v3)]) C.1 C.2.1 dL_law_1705 hl (k := 4) rfl rfl (by decide) (by simp [va_cat, vc_i, vc_l, vc_r]) (fun ls hl => ?_)
                              refine lv_goto (tgt := 23) C.1 C.2.1 dL_law_1708 (by decide) ?_
                              refine W.widen (k := ((513 - n) * 110 + 249)) (n := ((513 - n) * 1149 + 11693)) (by omega) (by omega) ?_
                              exact ih (by omega) _ _ _ _ _ _ _ _  hm hs (lv_sub hl [1, 2, 3, 4, 0] rfl) hh
                            · rw [if_neg c96] at hh
                              refine lv_iconst (v := 0) C.1 C.2.1 dL_law_582 (by decide) ?_
                              cases hh
                          · rw [if_neg c2_9] at hh
                            by_cases c2_10 : (x1 &&& 63) = 10
                            · rw [if_pos c2_10] at hh
                              refine r_tsw (tgt := 584) C dL_law_40 c2_10 (by decide) (by decide) rfl (by decide) ?_
                              refine r_aload_n C.1 C.2.1 dL_law_584 rfl (lv_at hl 1 rfl) ?_
                              refine lv_aload_n C.1 C.2.1 dL_law_585 rfl (lv_at hl 0 rfl) ?_
                              refine lv_iload C.1 C.2.1 dL_law_586 (lv_at hl 4 rfl) ?_
                              refine lv_iconst (v := 1) C.1 C.2.1 dL_law_588 (by decide) ?_
                              refine lv_iadd C.1 C.2.1 dL_law_589 ?_
                              refine r_scr C hX hbs hbG hs dL_law_590 hh (fun x97 _ hh => ?_)
                              refine lv_aload_n C.1 C.2.1 dL_law_591 rfl (lv_at hl 0 rfl) ?_
                              refine lv_iload C.1 C.2.1 dL_law_592 (lv_at hl 4 rfl) ?_
                              refine lv_iconst (v := 2) C.1 C.2.1 dL_law_594 (by decide) ?_
                              refine lv_iadd C.1 C.2.1 dL_law_595 ?_
                              refine r_scr C hX hbs hbG hs dL_law_596 hh (fun x98 _ hh => ?_)
                              refine r_cV (hroom := ⟨(show _ ≤ _ by (try simp only [LR]); omega), (show _ ≤ _ by (try simp only [LR]); omega)⟩) C X hm hs mlL_66 mvL_66 hh (vv := fun r => some (.int r.1)) (hp := fun r => r.2) (fun b r hg => c_X11_of l G h b _ _ r hg) rfl rfl (Nat.le_of_ble_eq_true rfl) (Nat.le_of_ble_eq_true rfl) (Nat.le_of_ble_eq_true rfl) hl.1 dL_law_597 (fun b100 r99 H locs hgr99 hh hm hs => ?_)
                              refine W.eq (g2 := F0 m 600 ls [.int r99.1]) rfl ?_
                              refine r_aload_n C.1 C.2.1 dL_law_600 rfl (lv_at hl 2 rfl) ?_
                              refine lv_aload_n C.1 C.2.1 dL_law_601 rfl (lv_at hl 0 rfl) ?_
                              refine lv_iload C.1 C.2.1 dL_law_602 (lv_at hl 4 rfl) ?_
                              refine lv_iconst (v := 1) C.1 C.2.1 dL_law_604 (by decide) ?_
                              refine lv_iadd C.1 C.2.1 dL_law_605 ?_
                              refine r_scr C hX hbs hbG hs dL_law_606 hh (fun x101 _ hh => ?_)
                              refine lv_aload_n C.1 C.2.1 dL_law_607 rfl (lv_at hl 0 rfl) ?_
                              refine lv_iload C.1 C.2.1 dL_law_608 (lv_at hl 4 rfl) ?_
                              refine lv_iconst (v := 2) C.1 C.2.1 dL_law_610 (by decide) ?_
                              refine lv_iadd C.1 C.2.1 dL_law_611 ?_
                              refine r_scr C hX hbs hbG hs dL_law_612 hh (fun x102 _ hh => ?_)
                              refine r_cV (hroom := ⟨(show _ ≤ _ by (try simp only [LR]); omega), (show _ ≤ _ by (try simp only [LR]); omega)⟩) C X hm hs mlL_69 mvL_69 hh (vv := fun r => some (.int r.1)) (hp := fun r => r.2) (fun b r hg => c_X16_of l G r99.2 b _ _ r hg) rfl rfl (Nat.le_of_ble_eq_true rfl) (Nat.le_of_ble_eq_true rfl) (Nat.le_of_ble_eq_true rfl) hl.1 dL_law_613 (fun b104 r103 H locs hgr103 hh hm hs => ?_)
                              refine W.eq (g2 := F0 m 616 ls [.int r103.1, .int r99.1]) rfl ?_
                              refine lv_icmp_eq (tgt := 1705) C.1 C.2.1 dL_law_616 (by decide) (fun c105 => ?_) (fun c105 => ?_)
                              · rw [if_pos c105] at hh
                                refine lv_iinc (v := (v4 + 7)) (lv' := [(4, .int (v4 + 7)), (0, .ref b), (1, va_rf v1), (2, va_rf v2), (3, va_rf v3)]) C.1 C.2.1 dL_law_1705 hl (k := 4) rfl rfl (by decide) (by simp [va_cat, vc_i, vc_l, vc_r]) (fun ls hl => ?_)
                                refine lv_goto (tgt := 23) C.1 C.2.1 dL_law_1708 (by decide) ?_
                                refine W.widen (k := ((513 - n) * 110 + 249)) (n := ((513 - n) * 1149 + 11693)) (by omega) (by omega) ?_
                                exact ih (by omega) _ _ _ _ _ _ _ _  hm hs (lv_sub hl [1, 2, 3, 4, 0] rfl) hh
                              · rw [if_neg c105] at hh
                                refine lv_iconst (v := 0) C.1 C.2.1 dL_law_619 (by decide) ?_
                                cases hh
                            · rw [if_neg c2_10] at hh
                              by_cases c2_11 : (x1 &&& 63) = 11
                              · rw [if_pos c2_11] at hh
                                refine r_tsw (tgt := 621) C dL_law_40 c2_11 (by decide) (by decide) rfl (by decide) ?_
                                refine r_aload_n C.1 C.2.1 dL_law_621 rfl (lv_at hl 1 rfl) ?_
                                refine lv_aload_n C.1 C.2.1 dL_law_622 rfl (lv_at hl 0 rfl) ?_
                                refine lv_iload C.1 C.2.1 dL_law_623 (lv_at hl 4 rfl) ?_
                                refine lv_iconst (v := 1) C.1 C.2.1 dL_law_625 (by decide) ?_
                                refine lv_iadd C.1 C.2.1 dL_law_626 ?_
                                refine r_scr C hX hbs hbG hs dL_law_627 hh (fun x106 _ hh => ?_)
                                refine r_cV (hroom := ⟨(show _ ≤ _ by (try simp only [LR]); omega), (show _ ≤ _ by (try simp only [LR]); omega)⟩) C X hm hs mlL_70 mvL_70 hh (vv := fun r => some (.int r.1)) (hp := fun r => r.2) (fun b r hg => c_X11_mend l G h b _ r hg) rfl rfl (Nat.le_of_ble_eq_true rfl) (Nat.le_of_ble_eq_true rfl) (Nat.le_of_ble_eq_true rfl) hl.1 dL_law_628 (fun b108 r107 H locs hgr107 hh hm hs => ?_)
                                refine W.eq (g2 := F0 m 631 ls [.int r107.1]) rfl ?_
                                refine r_aload_n C.1 C.2.1 dL_law_631 rfl (lv_at hl 2 rfl) ?_
                                refine lv_aload_n C.1 C.2.1 dL_law_632 rfl (lv_at hl 0 rfl) ?_
                                refine lv_iload C.1 C.2.1 dL_law_633 (lv_at hl 4 rfl) ?_
                                refine lv_iconst (v := 1) C.1 C.2.1 dL_law_635 (by decide) ?_
                                refine lv_iadd C.1 C.2.1 dL_law_636 ?_
                                refine r_scr C hX hbs hbG hs dL_law_637 hh (fun x109 _ hh => ?_)
                                refine r_cV (hroom := ⟨(show _ ≤ _ by (try simp only [LR]); omega), (show _ ≤ _ by (try simp only [LR]); omega)⟩) C X hm hs mlL_73 mvL_73 hh (vv := fun r => some (.int r.1)) (hp := fun r => r.2) (fun b r hg => c_X16_mend l G r107.2 b _ r hg) rfl rfl (Nat.le_of_ble_eq_true rfl) (Nat.le_of_ble_eq_true rfl) (Nat.le_of_ble_eq_true rfl) hl.1 dL_law_638 (fun b111 r110 H locs hgr110 hh hm hs => ?_)
                                refine W.eq (g2 := F0 m 641 ls [.int r110.1, .int r107.1]) rfl ?_
                                refine lv_icmp_eq (tgt := 1705) C.1 C.2.1 dL_law_641 (by decide) (fun c112 => ?_) (fun c112 => ?_)
                                · rw [if_pos c112] at hh
                                  refine lv_iinc (v := (v4 + 7)) (lv' := [(4, .int (v4 + 7)), (0, .ref b), (1, va_rf v1), (2, va_rf v2), (3, va_rf v3)]) C.1 C.2.1 dL_law_1705 hl (k := 4) rfl rfl (by decide) (by simp [va_cat, vc_i, vc_l, vc_r]) (fun ls hl => ?_)
                                  refine lv_goto (tgt := 23) C.1 C.2.1 dL_law_1708 (by decide) ?_
                                  refine W.widen (k := ((513 - n) * 110 + 249)) (n := ((513 - n) * 1149 + 11693)) (by omega) (by omega) ?_
                                  exact ih (by omega) _ _ _ _ _ _ _ _  hm hs (lv_sub hl [1, 2, 3, 4, 0] rfl) hh
                                · rw [if_neg c112] at hh
                                  refine lv_iconst (v := 0) C.1 C.2.1 dL_law_644 (by decide) ?_
                                  cases hh
                              · rw [if_neg c2_11] at hh
                                by_cases c2_12 : (x1 &&& 63) = 12
                                · rw [if_pos c2_12] at hh
                                  refine r_tsw (tgt := 646) C dL_law_40 c2_12 (by decide) (by decide) rfl (by decide) ?_
                                  refine r_aload_n C.1 C.2.1 dL_law_646 rfl (lv_at hl 1 rfl) ?_
                                  refine r_cV (hroom := ⟨(show _ ≤ _ by (try simp only [LR]); omega), (show _ ≤ _ by (try simp only [LR]); omega)⟩) C X hm hs mlL_74 mvL_74 hh (vv := fun r => some (.int r)) (hp := fun r => h) (fun b r hg => c_X11_giver l G h b  r hg) rfl rfl (Nat.le_of_ble_eq_true rfl) (Nat.le_of_ble_eq_true rfl) (Nat.le_of_ble_eq_true rfl) hl.1 dL_law_647 (fun b114 r113 H locs hgr113 hh hm hs => ?_)
                                  refine W.eq (g2 := F0 m 650 ls [.int r113]) rfl ?_
                                  refine r_aload_n C.1 C.2.1 dL_law_650 rfl (lv_at hl 2 rfl) ?_
                                  refine r_cV (hroom := ⟨(show _ ≤ _ by (try simp only [LR]); omega), (show _ ≤ _ by (try simp only [LR]); omega)⟩) C X hm hs mlL_77 mvL_77 hh (vv := fun r => some (.int r.1)) (hp := fun r => r.2) (fun b r hg => c_X16_giver l G h b  r hg) rfl rfl (Nat.le_of_ble_eq_true rfl) (Nat.le_of_ble_eq_true rfl) (Nat.le_of_ble_eq_true rfl) hl.1 dL_law_651 (fun b116 r115 H locs hgr115 hh hm hs => ?_)
                                  refine W.eq (g2 := F0 m 654 ls [.int r115.1, .int r113]) rfl ?_
                                  refine lv_icmp_eq (tgt := 1705) C.1 C.2.1 dL_law_654 (by decide) (fun c117 => ?_) (fun c117 => ?_)
                                  · rw [if_pos c117] at hh
                                    refine lv_iinc (v := (v4 + 7)) (lv' := [(4, .int (v4 + 7)), (0, .ref b), (1, va_rf v1), (2, va_rf v2), (3, va_rf v3)]) C.1 C.2.1 dL_law_1705 hl (k := 4) rfl rfl (by decide) (by simp [va_cat, vc_i, vc_l, vc_r]) (fun ls hl => ?_)
                                    refine lv_goto (tgt := 23) C.1 C.2.1 dL_law_1708 (by decide) ?_
                                    refine W.widen (k := ((513 - n) * 110 + 249)) (n := ((513 - n) * 1149 + 11693)) (by omega) (by omega) ?_
                                    exact ih (by omega) _ _ _ _ _ _ _ _  hm hs (lv_sub hl [1, 2, 3, 4, 0] rfl) hh
                                  · rw [if_neg c117] at hh
                                    refine lv_iconst (v := 0) C.1 C.2.1 dL_law_657 (by decide) ?_
                                    cases hh
                                · rw [if_neg c2_12] at hh
                                  by_cases c2_13 : (x1 &&& 63) = 13
                                  · rw [if_pos c2_13] at hh
                                    refine r_tsw (tgt := 659) C dL_law_40 c2_13 (by decide) (by decide) rfl (by decide) ?_
                                    refine r_aload_n C.1 C.2.1 dL_law_659 rfl (lv_at hl 1 rfl) ?_
                                    refine lv_aload_n C.1 C.2.1 dL_law_660 rfl (lv_at hl 0 rfl) ?_
                                    refine lv_iload C.1 C.2.1 dL_law_661 (lv_at hl 4 rfl) ?_
                                    refine lv_iconst (v := 1) C.1 C.2.1 dL_law_663 (by decide) ?_
                                    refine lv_iadd C.1 C.2.1 dL_law_664 ?_
                                    refine r_scr C hX hbs hbG hs dL_law_665 hh (fun x118 _ hh => ?_)
                                    refine lv_aload_n C.1 C.2.1 dL_law_666 rfl (lv_at hl 0 rfl) ?_
                                    refine lv_iload C.1 C.2.1 dL_law_667 (lv_at hl 4 rfl) ?_
                                    refine lv_iconst (v := 2) C.1 C.2.1 dL_law_669 (by decide) ?_
                                    refine lv_iadd C.1 C.2.1 dL_law_670 ?_
                                    refine r_scr C hX hbs hbG hs dL_law_671 hh (fun x119 _ hh => ?_)
                                    refine r_cV (hroom := ⟨(show _ ≤ _ by (try simp only [LR]); omega), (show _ ≤ _ by (try simp only [LR]); omega)⟩) C X hm hs mlL_78 mvL_78 hh (vv := fun r => some (.int r.1)) (hp := fun r => r.2) (fun b r hg => c_X11_fill l G h b _ _ r hg) rfl rfl (Nat.le_of_ble_eq_true rfl) (Nat.le_of_ble_eq_true rfl) (Nat.le_of_ble_eq_true rfl) hl.1 dL_law_672 (fun b121 r120 H locs hgr120 hh hm hs => ?_)
                                    refine W.eq (g2 := F0 m 675 ls [.int r120.1]) rfl ?_
                                    refine r_aload_n C.1 C.2.1 dL_law_675 rfl (lv_at hl 2 rfl) ?_
                                    refine lv_aload_n C.1 C.2.1 dL_law_676 rfl (lv_at hl 0 rfl) ?_
                                    refine lv_iload C.1 C.2.1 dL_law_677 (lv_at hl 4 rfl) ?_
                                    refine lv_iconst (v := 1) C.1 C.2.1 dL_law_679 (by decide) ?_
                                    refine lv_iadd C.1 C.2.1 dL_law_680 ?_
                                    refine r_scr C hX hbs hbG hs dL_law_681 hh (fun x122 _ hh => ?_)
                                    refine lv_aload_n C.1 C.2.1 dL_law_682 rfl (lv_at hl 0 rfl) ?_
                                    refine lv_iload C.1 C.2.1 dL_law_683 (lv_at hl 4 rfl) ?_
                                    refine lv_iconst (v := 2) C.1 C.2.1 dL_law_685 (by decide) ?_
                                    refine lv_iadd C.1 C.2.1 dL_law_686 ?_
                                    refine r_scr C hX hbs hbG hs dL_law_687 hh (fun x123 _ hh => ?_)
                                    refine r_cV (hroom := ⟨(show _ ≤ _ by (try simp only [LR]); omega), (show _ ≤ _ by (try simp only [LR]); omega)⟩) C X hm hs mlL_81 mvL_81 hh (vv := fun r => some (.int r.1)) (hp := fun r => r.2) (fun b r hg => c_X16_fill l G r120.2 b _ _ r hg) rfl rfl (Nat.le_of_ble_eq_true rfl) (Nat.le_of_ble_eq_true rfl) (Nat.le_of_ble_eq_true rfl) hl.1 dL_law_688 (fun b125 r124 H locs hgr124 hh hm hs => ?_)
                                    refine W.eq (g2 := F0 m 691 ls [.int r124.1, .int r120.1]) rfl ?_
                                    refine lv_icmp_eq (tgt := 1705) C.1 C.2.1 dL_law_691 (by decide) (fun c126 => ?_) (fun c126 => ?_)
                                    · rw [if_pos c126] at hh
                                      refine lv_iinc (v := (v4 + 7)) (lv' := [(4, .int (v4 + 7)), (0, .ref b), (1, va_rf v1), (2, va_rf v2), (3, va_rf v3)]) C.1 C.2.1 dL_law_1705 hl (k := 4) rfl rfl (by decide) (by simp [va_cat, vc_i, vc_l, vc_r]) (fun ls hl => ?_)
                                      refine lv_goto (tgt := 23) C.1 C.2.1 dL_law_1708 (by decide) ?_
                                      refine W.widen (k := ((513 - n) * 110 + 249)) (n := ((513 - n) * 1149 + 11693)) (by omega) (by omega) ?_
                                      exact ih (by omega) _ _ _ _ _ _ _ _  hm hs (lv_sub hl [1, 2, 3, 4, 0] rfl) hh
                                    · rw [if_neg c126] at hh
                                      refine lv_iconst (v := 0) C.1 C.2.1 dL_law_694 (by decide) ?_
                                      cases hh
                                  · rw [if_neg c2_13] at hh
                                    by_cases c2_14 : (x1 &&& 63) = 14
                                    · rw [if_pos c2_14] at hh
                                      refine r_tsw (tgt := 696) C dL_law_40 c2_14 (by decide) (by decide) rfl (by decide) ?_
                                      refine r_aload_n C.1 C.2.1 dL_law_696 rfl (lv_at hl 1 rfl) ?_
                                      refine lv_aload_n C.1 C.2.1 dL_law_697 rfl (lv_at hl 0 rfl) ?_
                                      refine lv_iload C.1 C.2.1 dL_law_698 (lv_at hl 4 rfl) ?_
                                      refine lv_iconst (v := 1) C.1 C.2.1 dL_law_700 (by decide) ?_
                                      refine lv_iadd C.1 C.2.1 dL_law_701 ?_
                                      refine r_scr C hX hbs hbG hs dL_law_702 hh (fun x127 _ hh => ?_)
                                      refine r_cV (hroom := ⟨(show _ ≤ _ by (try simp only [LR]); omega), (show _ ≤ _ by (try simp only [LR]); omega)⟩) C X hm hs mlL_82 mvL_82 hh (vv := fun r => some (.int r.1)) (hp := fun r => r.2) (fun b r hg => c_X11_pass l G h b _ r hg) rfl rfl (Nat.le_of_ble_eq_true rfl) (Nat.le_of_ble_eq_true rfl) (Nat.le_of_ble_eq_true rfl) hl.1 dL_law_703 (fun b129 r128 H locs hgr128 hh hm hs => ?_)
                                      refine W.eq (g2 := F0 m 706 ls [.int r128.1]) rfl ?_
                                      refine r_aload_n C.1 C.2.1 dL_law_706 rfl (lv_at hl 2 rfl) ?_
                                      refine lv_aload_n C.1 C.2.1 dL_law_707 rfl (lv_at hl 0 rfl) ?_
                                      refine lv_iload C.1 C.2.1 dL_law_708 (lv_at hl 4 rfl) ?_
                                      refine lv_iconst (v := 1) C.1 C.2.1 dL_law_710 (by decide) ?_
                                      refine lv_iadd C.1 C.2.1 dL_law_711 ?_
                                      refine r_scr C hX hbs hbG hs dL_law_712 hh (fun x130 _ hh => ?_)
                                      refine r_cV (hroom := ⟨(show _ ≤ _ by (try simp only [LR]); omega), (show _ ≤ _ by (try simp only [LR]); omega)⟩) C X hm hs mlL_85 mvL_85 hh (vv := fun r => some (.int r.1)) (hp := fun r => r.2) (fun b r hg => c_X16_pass l G r128.2 b _ r hg) rfl rfl (Nat.le_of_ble_eq_true rfl) (Nat.le_of_ble_eq_true rfl) (Nat.le_of_ble_eq_true rfl) hl.1 dL_law_713 (fun b132 r131 H locs hgr131 hh hm hs => ?_)
                                      refine W.eq (g2 := F0 m 716 ls [.int r131.1, .int r128.1]) rfl ?_
                                      refine lv_icmp_eq (tgt := 1705) C.1 C.2.1 dL_law_716 (by decide) (fun c133 => ?_) (fun c133 => ?_)
                                      · rw [if_pos c133] at hh
                                        refine lv_iinc (v := (v4 + 7)) (lv' := [(4, .int (v4 + 7)), (0, .ref b), (1, va_rf v1), (2, va_rf v2), (3, va_rf v3)]) C.1 C.2.1 dL_law_1705 hl (k := 4) rfl rfl (by decide) (by simp [va_cat, vc_i, vc_l, vc_r]) (fun ls hl => ?_)
                                        refine lv_goto (tgt := 23) C.1 C.2.1 dL_law_1708 (by decide) ?_
                                        refine W.widen (k := ((513 - n) * 110 + 249)) (n := ((513 - n) * 1149 + 11693)) (by omega) (by omega) ?_
                                        exact ih (by omega) _ _ _ _ _ _ _ _  hm hs (lv_sub hl [1, 2, 3, 4, 0] rfl) hh
                                      · rw [if_neg c133] at hh
                                        refine lv_iconst (v := 0) C.1 C.2.1 dL_law_719 (by decide) ?_
                                        cases hh
                                    · rw [if_neg c2_14] at hh
                                      by_cases c2_15 : (x1 &&& 63) = 15
                                      · rw [if_pos c2_15] at hh
                                        refine r_tsw (tgt := 721) C dL_law_40 c2_15 (by decide) (by decide) rfl (by decide) ?_
                                        refine r_aload_n C.1 C.2.1 dL_law_721 rfl (lv_at hl 1 rfl) ?_
                                        refine lv_aload_n C.1 C.2.1 dL_law_722 rfl (lv_at hl 0 rfl) ?_
                                        refine lv_iload C.1 C.2.1 dL_law_723 (lv_at hl 4 rfl) ?_
                                        refine lv_iconst (v := 1) C.1 C.2.1 dL_law_725 (by decide) ?_
                                        refine lv_iadd C.1 C.2.1 dL_law_726 ?_
                                        refine r_scr C hX hbs hbG hs dL_law_727 hh (fun x134 _ hh => ?_)
                                        refine lv_aload_n C.1 C.2.1 dL_law_728 rfl (lv_at hl 0 rfl) ?_
                                        refine lv_iload C.1 C.2.1 dL_law_729 (lv_at hl 4 rfl) ?_
                                        refine lv_iconst (v := 2) C.1 C.2.1 dL_law_731 (by decide) ?_
                                        refine lv_iadd C.1 C.2.1 dL_law_732 ?_
                                        refine r_scr C hX hbs hbG hs dL_law_733 hh (fun x135 _ hh => ?_)
                                        refine lv_aload_n C.1 C.2.1 dL_law_734 rfl (lv_at hl 0 rfl) ?_
                                        refine lv_iload C.1 C.2.1 dL_law_735 (lv_at hl 4 rfl) ?_
                                        refine lv_iconst (v := 3) C.1 C.2.1 dL_law_737 (by decide) ?_
                                        refine lv_iadd C.1 C.2.1 dL_law_738 ?_
                                        refine r_scr C hX hbs hbG hs dL_law_739 hh (fun x136 _ hh => ?_)
                                        refine lv_aload_n C.1 C.2.1 dL_law_740 rfl (lv_at hl 0 rfl) ?_
                                        refine lv_iload C.1 C.2.1 dL_law_741 (lv_at hl 4 rfl) ?_
                                        refine lv_iconst (v := 4) C.1 C.2.1 dL_law_743 (by decide) ?_
                                        refine lv_iadd C.1 C.2.1 dL_law_744 ?_
                                        refine r_scr C hX hbs hbG hs dL_law_745 hh (fun x137 _ hh => ?_)
                                        refine lv_aload_n C.1 C.2.1 dL_law_746 rfl (lv_at hl 0 rfl) ?_
                                        refine lv_iload C.1 C.2.1 dL_law_747 (lv_at hl 4 rfl) ?_
                                        refine lv_iconst (v := 5) C.1 C.2.1 dL_law_749 (by decide) ?_
                                        refine lv_iadd C.1 C.2.1 dL_law_750 ?_
                                        refine r_scr C hX hbs hbG hs dL_law_751 hh (fun x138 _ hh => ?_)
                                        refine r_cV (hroom := ⟨(show _ ≤ _ by (try simp only [LR]); omega), (show _ ≤ _ by (try simp only [LR]); omega)⟩) C X hm hs mlL_86 mvL_86 hh (vv := fun r => some (.long r.1)) (hp := fun r => r.2) (fun b r hg => c_X11_figure l G h b _ _ _ _ _ r hg) rfl rfl (Nat.le_of_ble_eq_true rfl) (Nat.le_of_ble_eq_true rfl) (Nat.le_of_ble_eq_true rfl) hl.1 dL_law_752 (fun b140 r139 H locs hgr139 hh hm hs => ?_)
                                        refine W.eq (g2 := F0 m 755 ls [.long r139.1]) rfl ?_
                                        refine r_aload_n C.1 C.2.1 dL_law_755 rfl (lv_at hl 2 rfl) ?_
                                        refine lv_aload_n C.1 C.2.1 dL_law_756 rfl (lv_at hl 0 rfl) ?_
                                        refine lv_iload C.1 C.2.1 dL_law_757 (lv_at hl 4 rfl) ?_
                                        refine lv_iconst (v := 1) C.1 C.2.1 dL_law_759 (by decide) ?_
                                        refine lv_iadd C.1 C.2.1 dL_law_760 ?_
                                        refine r_scr C hX hbs hbG hs dL_law_761 hh (fun x141 _ hh => ?_)
                                        refine lv_aload_n C.1 C.2.1 dL_law_762 rfl (lv_at hl 0 rfl) ?_
                                        refine lv_iload C.1 C.2.1 dL_law_763 (lv_at hl 4 rfl) ?_
                                        refine lv_iconst (v := 2) C.1 C.2.1 dL_law_765 (by decide) ?_
                                        refine lv_iadd C.1 C.2.1 dL_law_766 ?_
                                        refine r_scr C hX hbs hbG hs dL_law_767 hh (fun x142 _ hh => ?_)
                                        refine lv_aload_n C.1 C.2.1 dL_law_768 rfl (lv_at hl 0 rfl) ?_
                                        refine lv_iload C.1 C.2.1 dL_law_769 (lv_at hl 4 rfl) ?_
                                        refine lv_iconst (v := 3) C.1 C.2.1 dL_law_771 (by decide) ?_
                                        refine lv_iadd C.1 C.2.1 dL_law_772 ?_
                                        refine r_scr C hX hbs hbG hs dL_law_773 hh (fun x143 _ hh => ?_)
                                        refine lv_aload_n C.1 C.2.1 dL_law_774 rfl (lv_at hl 0 rfl) ?_
                                        refine lv_iload C.1 C.2.1 dL_law_775 (lv_at hl 4 rfl) ?_
                                        refine lv_iconst (v := 4) C.1 C.2.1 dL_law_777 (by decide) ?_
                                        refine lv_iadd C.1 C.2.1 dL_law_778 ?_
                                        refine r_scr C hX hbs hbG hs dL_law_779 hh (fun x144 _ hh => ?_)
                                        refine lv_aload_n C.1 C.2.1 dL_law_780 rfl (lv_at hl 0 rfl) ?_
                                        refine lv_iload C.1 C.2.1 dL_law_781 (lv_at hl 4 rfl) ?_
                                        refine lv_iconst (v := 5) C.1 C.2.1 dL_law_783 (by decide) ?_
                                        refine lv_iadd C.1 C.2.1 dL_law_784 ?_
                                        refine r_scr C hX hbs hbG hs dL_law_785 hh (fun x145 _ hh => ?_)
                                        refine r_cV (hroom := ⟨(show _ ≤ _ by (try simp only [LR]); omega), (show _ ≤ _ by (try simp only [LR]); omega)⟩) C X hm hs mlL_90 mvL_90 hh (vv := fun r => some (.long r.1)) (hp := fun r => r.2) (fun b r hg => c_X16_figure l G r139.2 b _ _ _ _ _ r hg) rfl rfl (Nat.le_of_ble_eq_true rfl) (Nat.le_of_ble_eq_true rfl) (Nat.le_of_ble_eq_true rfl) hl.1 dL_law_786 (fun b147 r146 H locs hgr146 hh hm hs => ?_)
                                        refine W.eq (g2 := F0 m 789 ls [.long r146.1, .long r139.1]) rfl ?_
                                        refine W.lcmp C.1 C.2.1 dL_law_789 ?_
                                        refine lv_if_eq (tgt := 1705) C.1 C.2.1 dL_law_790 (by decide) (fun c148 => ?_) (fun c148 => ?_)
                                        · rw [if_pos c148] at hh
                                          refine lv_iinc (v := (v4 + 7)) (lv' := [(4, .int (v4 + 7)), (0, .ref b), (1, va_rf v1), (2, va_rf v2), (3, va_rf v3)]) C.1 C.2.1 dL_law_1705 hl (k := 4) rfl rfl (by decide) (by simp [va_cat, vc_i, vc_l, vc_r]) (fun ls hl => ?_)
                                          refine lv_goto (tgt := 23) C.1 C.2.1 dL_law_1708 (by decide) ?_
                                          refine W.widen (k := ((513 - n) * 110 + 249)) (n := ((513 - n) * 1149 + 11693)) (by omega) (by omega) ?_
                                          exact ih (by omega) _ _ _ _ _ _ _ _  hm hs (lv_sub hl [1, 2, 3, 4, 0] rfl) hh
                                        · rw [if_neg c148] at hh
                                          refine lv_iconst (v := 0) C.1 C.2.1 dL_law_793 (by decide) ?_
                                          cases hh
                                      · rw [if_neg c2_15] at hh
                                        by_cases c2_16 : (x1 &&& 63) = 16
                                        · rw [if_pos c2_16] at hh
                                          refine r_tsw (tgt := 795) C dL_law_40 c2_16 (by decide) (by decide) rfl (by decide) ?_
                                          refine r_aload_n C.1 C.2.1 dL_law_795 rfl (lv_at hl 1 rfl) ?_
                                          refine lv_aload_n C.1 C.2.1 dL_law_796 rfl (lv_at hl 0 rfl) ?_
                                          refine lv_iload C.1 C.2.1 dL_law_797 (lv_at hl 4 rfl) ?_
                                          refine lv_iconst (v := 1) C.1 C.2.1 dL_law_799 (by decide) ?_
                                          refine lv_iadd C.1 C.2.1 dL_law_800 ?_
                                          refine r_scr C hX hbs hbG hs dL_law_801 hh (fun x149 _ hh => ?_)
                                          refine lv_aload_n C.1 C.2.1 dL_law_802 rfl (lv_at hl 0 rfl) ?_
                                          refine lv_iload C.1 C.2.1 dL_law_803 (lv_at hl 4 rfl) ?_
                                          refine lv_iconst (v := 2) C.1 C.2.1 dL_law_805 (by decide) ?_
                                          refine lv_iadd C.1 C.2.1 dL_law_806 ?_
                                          refine r_scr C hX hbs hbG hs dL_law_807 hh (fun x150 _ hh => ?_)
                                          refine lv_aload_n C.1 C.2.1 dL_law_808 rfl (lv_at hl 0 rfl) ?_
                                          refine lv_iload C.1 C.2.1 dL_law_809 (lv_at hl 4 rfl) ?_
                                          refine lv_iconst (v := 3) C.1 C.2.1 dL_law_811 (by decide) ?_
                                          refine lv_iadd C.1 C.2.1 dL_law_812 ?_
                                          refine r_scr C hX hbs hbG hs dL_law_813 hh (fun x151 _ hh => ?_)
                                          refine lv_aload_n C.1 C.2.1 dL_law_814 rfl (lv_at hl 0 rfl) ?_
                                          refine lv_iload C.1 C.2.1 dL_law_815 (lv_at hl 4 rfl) ?_
                                          refine lv_iconst (v := 4) C.1 C.2.1 dL_law_817 (by decide) ?_
                                          refine lv_iadd C.1 C.2.1 dL_law_818 ?_
                                          refine r_scr C hX hbs hbG hs dL_law_819 hh (fun x152 _ hh => ?_)
                                          refine lv_if_eq (tgt := 827) C.1 C.2.1 dL_law_820 (by decide) (fun c179 => ?_) (fun c179 => ?_)
                                          · rw [if_pos c179] at hh
                                            refine lv_iconst (v := 0) C.1 C.2.1 dL_law_827 (by decide) ?_
                                            refine r_cV (hroom := ⟨(show _ ≤ _ by (try simp only [LR]); omega), (show _ ≤ _ by (try simp only [LR]); omega)⟩) C X hm hs mlL_91 mvL_91 hh (vv := fun r => some (.long r.1)) (hp := fun r => r.2) (fun b r hg => c_X11_span l G h b _ _ _ _ r hg) rfl rfl (Nat.le_of_ble_eq_true rfl) (Nat.le_of_ble_eq_true rfl) (Nat.le_of_ble_eq_true rfl) hl.1 dL_law_828 (fun b154 r153 H locs hgr153 hh hm hs => ?_)
                                            refine W.eq (g2 := F0 m 831 ls [.long r153.1]) rfl ?_
                                            refine r_aload_n C.1 C.2.1 dL_law_831 rfl (lv_at hl 2 rfl) ?_
                                            refine lv_aload_n C.1 C.2.1 dL_law_832 rfl (lv_at hl 0 rfl) ?_
                                            refine lv_iload C.1 C.2.1 dL_law_833 (lv_at hl 4 rfl) ?_
                                            refine lv_iconst (v := 1) C.1 C.2.1 dL_law_835 (by decide) ?_
                                            refine lv_iadd C.1 C.2.1 dL_law_836 ?_
                                            refine r_scr C hX hbs hbG hs dL_law_837 hh (fun x155 _ hh => ?_)
                                            refine lv_aload_n C.1 C.2.1 dL_law_838 rfl (lv_at hl 0 rfl) ?_
                                            refine lv_iload C.1 C.2.1 dL_law_839 (lv_at hl 4 rfl) ?_
                                            refine lv_iconst (v := 2) C.1 C.2.1 dL_law_841 (by decide) ?_
                                            refine lv_iadd C.1 C.2.1 dL_law_842 ?_
                                            refine r_scr C hX hbs hbG hs dL_law_843 hh (fun x156 _ hh => ?_)
                                            refine lv_aload_n C.1 C.2.1 dL_law_844 rfl (lv_at hl 0 rfl) ?_
                                            refine lv_iload C.1 C.2.1 dL_law_845 (lv_at hl 4 rfl) ?_
                                            refine lv_iconst (v := 3) C.1 C.2.1 dL_law_847 (by decide) ?_
                                            refine lv_iadd C.1 C.2.1 dL_law_848 ?_
                                            refine r_scr C hX hbs hbG hs dL_law_849 hh (fun x157 _ hh => ?_)
                                            refine lv_aload_n C.1 C.2.1 dL_law_850 rfl (lv_at hl 0 rfl) ?_
                                            refine lv_iload C.1 C.2.1 dL_law_851 (lv_at hl 4 rfl) ?_
                                            refine lv_iconst (v := 4) C.1 C.2.1 dL_law_853 (by decide) ?_
                                            refine lv_iadd C.1 C.2.1 dL_law_854 ?_
                                            refine r_scr C hX hbs hbG hs dL_law_855 hh (fun x158 _ hh => ?_)
                                            refine lv_if_eq (tgt := 863) C.1 C.2.1 dL_law_856 (by decide) (fun c165 => ?_) (fun c165 => ?_)
                                            · rw [if_pos c165] at hh
                                              refine lv_iconst (v := 0) C.1 C.2.1 dL_law_863 (by decide) ?_
                                              refine r_cV (hroom := ⟨(show _ ≤ _ by (try simp only [LR]); omega), (show _ ≤ _ by (try simp only [LR]); omega)⟩) C X hm hs mlL_95 mvL_95 hh (vv := fun r => some (.long r.1)) (hp := fun r => r.2) (fun b r hg => c_X16_span l G r153.2 b _ _ _ _ r hg) rfl rfl (Nat.le_of_ble_eq_true rfl) (Nat.le_of_ble_eq_true rfl) (Nat.le_of_ble_eq_true rfl) hl.1 dL_law_864 (fun b160 r159 H locs hgr159 hh hm hs => ?_)
                                              refine W.eq (g2 := F0 m 867 ls [.long r159.1, .long r153.1]) rfl ?_
                                              refine W.lcmp C.1 C.2.1 dL_law_867 ?_
                                              refine lv_if_eq (tgt := 1705) C.1 C.2.1 dL_law_868 (by decide) (fun c161 => ?_) (fun c161 => ?_)
                                              · rw [if_pos c161] at hh
                                                refine lv_iinc (v := (v4 + 7)) (lv' := [(4, .int (v4 + 7)), (0, .ref b), (1, va_rf v1), (2, va_rf v2), (3, va_rf v3)]) C.1 C.2.1 dL_law_1705 hl (k := 4) rfl rfl (by decide) (by simp [va_cat, vc_i, vc_l, vc_r]) (fun ls hl => ?_)
                                                refine lv_goto (tgt := 23) C.1 C.2.1 dL_law_1708 (by decide) ?_
                                                refine W.widen (k := ((513 - n) * 110 + 249)) (n := ((513 - n) * 1149 + 11693)) (by omega) (by omega) ?_
                                                exact ih (by omega) _ _ _ _ _ _ _ _  hm hs (lv_sub hl [1, 2, 3, 4, 0] rfl) hh
                                              · rw [if_neg c161] at hh
                                                refine lv_iconst (v := 0) C.1 C.2.1 dL_law_871 (by decide) ?_
                                                cases hh
                                            · rw [if_neg c165] at hh
                                              refine lv_iconst (v := 1) C.1 C.2.1 dL_law_859 (by decide) ?_
                                              refine lv_goto (tgt := 864) C.1 C.2.1 dL_law_860 (by decide) ?_
                                              refine r_cV (hroom := ⟨(show _ ≤ _ by (try simp only [LR]); omega), (show _ ≤ _ by (try simp only [LR]); omega)⟩) C X hm hs mlL_95 mvL_95 hh (vv := fun r => some (.long r.1)) (hp := fun r => r.2) (fun b r hg => c_X16_span l G r153.2 b _ _ _ _ r hg) rfl rfl (Nat.le_of_ble_eq_true rfl) (Nat.le_of_ble_eq_true rfl) (Nat.le_of_ble_eq_true rfl) hl.1 dL_law_864 (fun b163 r162 H locs hgr162 hh hm hs => ?_)
                                              refine W.eq (g2 := F0 m 867 ls [.long r162.1, .long r153.1]) rfl ?_
                                              refine W.lcmp C.1 C.2.1 dL_law_867 ?_
                                              refine lv_if_eq (tgt := 1705) C.1 C.2.1 dL_law_868 (by decide) (fun c164 => ?_) (fun c164 => ?_)
                                              · rw [if_pos c164] at hh
                                                refine lv_iinc (v := (v4 + 7)) (lv' := [(4, .int (v4 + 7)), (0, .ref b), (1, va_rf v1), (2, va_rf v2), (3, va_rf v3)]) C.1 C.2.1 dL_law_1705 hl (k := 4) rfl rfl (by decide) (by simp [va_cat, vc_i, vc_l, vc_r]) (fun ls hl => ?_)
                                                refine lv_goto (tgt := 23) C.1 C.2.1 dL_law_1708 (by decide) ?_
                                                refine W.widen (k := ((513 - n) * 110 + 249)) (n := ((513 - n) * 1149 + 11693)) (by omega) (by omega) ?_
                                                exact ih (by omega) _ _ _ _ _ _ _ _  hm hs (lv_sub hl [1, 2, 3, 4, 0] rfl) hh
                                              · rw [if_neg c164] at hh
                                                refine lv_iconst (v := 0) C.1 C.2.1 dL_law_871 (by decide) ?_
                                                cases hh
                                          · rw [if_neg c179] at hh
                                            refine lv_iconst (v := 1) C.1 C.2.1 dL_law_823 (by decide) ?_
                                            refine lv_goto (tgt := 828) C.1 C.2.1 dL_law_824 (by decide) ?_
                                            refine r_cV (hroom := ⟨(show _ ≤ _ by (try simp only [LR]); omega), (show _ ≤ _ by (try simp only [LR]); omega)⟩) C X hm hs mlL_91 mvL_91 hh (vv := fun r => some (.long r.1)) (hp := fun r => r.2) (fun b r hg => c_X11_span l G h b _ _ _ _ r hg) rfl rfl (Nat.le_of_ble_eq_true rfl) (Nat.le_of_ble_eq_true rfl) (Nat.le_of_ble_eq_true rfl) hl.1 dL_law_828 (fun b167 r166 H locs hgr166 hh hm hs => ?_)
                                            refine W.eq (g2 := F0 m 831 ls [.long r166.1]) rfl ?_
                                            refine r_aload_n C.1 C.2.1 dL_law_831 rfl (lv_at hl 2 rfl) ?_
                                            refine lv_aload_n C.1 C.2.1 dL_law_832 rfl (lv_at hl 0 rfl) ?_
                                            refine lv_iload C.1 C.2.1 dL_law_833 (lv_at hl 4 rfl) ?_
                                            refine lv_iconst (v := 1) C.1 C.2.1 dL_law_835 (by decide) ?_
                                            refine lv_iadd C.1 C.2.1 dL_law_836 ?_
                                            refine r_scr C hX hbs hbG hs dL_law_837 hh (fun x168 _ hh => ?_)
                                            refine lv_aload_n C.1 C.2.1 dL_law_838 rfl (lv_at hl 0 rfl) ?_
                                            refine lv_iload C.1 C.2.1 dL_law_839 (lv_at hl 4 rfl) ?_
                                            refine lv_iconst (v := 2) C.1 C.2.1 dL_law_841 (by decide) ?_
                                            refine lv_iadd C.1 C.2.1 dL_law_842 ?_
                                            refine r_scr C hX hbs hbG hs dL_law_843 hh (fun x169 _ hh => ?_)
                                            refine lv_aload_n C.1 C.2.1 dL_law_844 rfl (lv_at hl 0 rfl) ?_
                                            refine lv_iload C.1 C.2.1 dL_law_845 (lv_at hl 4 rfl) ?_
                                            refine lv_iconst (v := 3) C.1 C.2.1 dL_law_847 (by decide) ?_
                                            refine lv_iadd C.1 C.2.1 dL_law_848 ?_
                                            refine r_scr C hX hbs hbG hs dL_law_849 hh (fun x170 _ hh => ?_)
                                            refine lv_aload_n C.1 C.2.1 dL_law_850 rfl (lv_at hl 0 rfl) ?_
                                            refine lv_iload C.1 C.2.1 dL_law_851 (lv_at hl 4 rfl) ?_
                                            refine lv_iconst (v := 4) C.1 C.2.1 dL_law_853 (by decide) ?_
                                            refine lv_iadd C.1 C.2.1 dL_law_854 ?_
                                            refine r_scr C hX hbs hbG hs dL_law_855 hh (fun x171 _ hh => ?_)
                                            refine lv_if_eq (tgt := 863) C.1 C.2.1 dL_law_856 (by decide) (fun c178 => ?_) (fun c178 => ?_)
                                            · rw [if_pos c178] at hh
                                              refine lv_iconst (v := 0) C.1 C.2.1 dL_law_863 (by decide) ?_
                                              refine r_cV (hroom := ⟨(show _ ≤ _ by (try simp only [LR]); omega), (show _ ≤ _ by (try simp only [LR]); omega)⟩) C X hm hs mlL_95 mvL_95 hh (vv := fun r => some (.long r.1)) (hp := fun r => r.2) (fun b r hg => c_X16_span l G r166.2 b _ _ _ _ r hg) rfl rfl (Nat.le_of_ble_eq_true rfl) (Nat.le_of_ble_eq_true rfl) (Nat.le_of_ble_eq_true rfl) hl.1 dL_law_864 (fun b173 r172 H locs hgr172 hh hm hs => ?_)
                                              refine W.eq (g2 := F0 m 867 ls [.long r172.1, .long r166.1]) rfl ?_
                                              refine W.lcmp C.1 C.2.1 dL_law_867 ?_
                                              refine lv_if_eq (tgt := 1705) C.1 C.2.1 dL_law_868 (by decide) (fun c174 => ?_) (fun c174 => ?_)
                                              · rw [if_pos c174] at hh
                                                refine lv_iinc (v := (v4 + 7)) (lv' := [(4, .int (v4 + 7)), (0, .ref b), (1, va_rf v1), (2, va_rf v2), (3, va_rf v3)]) C.1 C.2.1 dL_law_1705 hl (k := 4) rfl rfl (by decide) (by simp [va_cat, vc_i, vc_l, vc_r]) (fun ls hl => ?_)
                                                refine lv_goto (tgt := 23) C.1 C.2.1 dL_law_1708 (by decide) ?_
                                                refine W.widen (k := ((513 - n) * 110 + 249)) (n := ((513 - n) * 1149 + 11693)) (by omega) (by omega) ?_
                                                exact ih (by omega) _ _ _ _ _ _ _ _  hm hs (lv_sub hl [1, 2, 3, 4, 0] rfl) hh
                                              · rw [if_neg c174] at hh
                                                refine lv_iconst (v := 0) C.1 C.2.1 dL_law_871 (by decide) ?_
                                                cases hh
                                            · rw [if_neg c178] at hh
                                              refine lv_iconst (v := 1) C.1 C.2.1 dL_law_859 (by decide) ?_
                                              refine lv_goto (tgt := 864) C.1 C.2.1 dL_law_860 (by decide) ?_
                                              refine r_cV (hroom := ⟨(show _ ≤ _ by (try simp only [LR]); omega), (show _ ≤ _ by (try simp only [LR]); omega)⟩) C X hm hs mlL_95 mvL_95 hh (vv := fun r => some (.long r.1)) (hp := fun r => r.2) (fun b r hg => c_X16_span l G r166.2 b _ _ _ _ r hg) rfl rfl (Nat.le_of_ble_eq_true rfl) (Nat.le_of_ble_eq_true rfl) (Nat.le_of_ble_eq_true rfl) hl.1 dL_law_864 (fun b176 r175 H locs hgr175 hh hm hs => ?_)
                                              refine W.eq (g2 := F0 m 867 ls [.long r175.1, .long r166.1]) rfl ?_
                                              refine W.lcmp C.1 C.2.1 dL_law_867 ?_
                                              refine lv_if_eq (tgt := 1705) C.1 C.2.1 dL_law_868 (by decide) (fun c177 => ?_) (fun c177 => ?_)
                                              · rw [if_pos c177] at hh
                                                refine lv_iinc (v := (v4 + 7)) (lv' := [(4, .int (v4 + 7)), (0, .ref b), (1, va_rf v1), (2, va_rf v2), (3, va_rf v3)]) C.1 C.2.1 dL_law_1705 hl (k := 4) rfl rfl (by decide) (by simp [va_cat, vc_i, vc_l, vc_r]) (fun ls hl => ?_)
                                                refine lv_goto (tgt := 23) C.1 C.2.1 dL_law_1708 (by decide) ?_
                                                refine W.widen (k := ((513 - n) * 110 + 249)) (n := ((513 - n) * 1149 + 11693)) (by omega) (by omega) ?_
                                                exact ih (by omega) _ _ _ _ _ _ _ _  hm hs (lv_sub hl [1, 2, 3, 4, 0] rfl) hh
                                              · rw [if_neg c177] at hh
                                                refine lv_iconst (v := 0) C.1 C.2.1 dL_law_871 (by decide) ?_
                                                cases hh
                                        · rw [if_neg c2_16] at hh
                                          by_cases c2_17 : (x1 &&& 63) = 17
                                          · rw [if_pos c2_17] at hh
                                            refine r_tsw (tgt := 873) C dL_law_40 c2_17 (by decide) (by decide) rfl (by decide) ?_
                                            refine r_aload_n C.1 C.2.1 dL_law_873 rfl (lv_at hl 1 rfl) ?_
                                            refine lv_aload_n C.1 C.2.1 dL_law_874 rfl (lv_at hl 0 rfl) ?_
                                            refine lv_iload C.1 C.2.1 dL_law_875 (lv_at hl 4 rfl) ?_
                                            refine lv_iconst (v := 1) C.1 C.2.1 dL_law_877 (by decide) ?_
                                            refine lv_iadd C.1 C.2.1 dL_law_878 ?_
                                            refine r_scr C hX hbs hbG hs dL_law_879 hh (fun x180 _ hh => ?_)
                                            refine lv_aload_n C.1 C.2.1 dL_law_880 rfl (lv_at hl 0 rfl) ?_
                                            refine lv_iload C.1 C.2.1 dL_law_881 (lv_at hl 4 rfl) ?_
                                            refine lv_iconst (v := 2) C.1 C.2.1 dL_law_883 (by decide) ?_
                                            refine lv_iadd C.1 C.2.1 dL_law_884 ?_
                                            refine r_scr C hX hbs hbG hs dL_law_885 hh (fun x181 _ hh => ?_)
                                            refine lv_aload_n C.1 C.2.1 dL_law_886 rfl (lv_at hl 0 rfl) ?_
                                            refine lv_iload C.1 C.2.1 dL_law_887 (lv_at hl 4 rfl) ?_
                                            refine lv_iconst (v := 3) C.1 C.2.1 dL_law_889 (by decide) ?_
                                            refine lv_iadd C.1 C.2.1 dL_law_890 ?_
                                            refine r_scr C hX hbs hbG hs dL_law_891 hh (fun x182 _ hh => ?_)
                                            refine lv_aload_n C.1 C.2.1 dL_law_892 rfl (lv_at hl 0 rfl) ?_
                                            refine lv_iload C.1 C.2.1 dL_law_893 (lv_at hl 4 rfl) ?_
                                            refine lv_iconst (v := 4) C.1 C.2.1 dL_law_895 (by decide) ?_
                                            refine lv_iadd C.1 C.2.1 dL_law_896 ?_
                                            refine r_scr C hX hbs hbG hs dL_law_897 hh (fun x183 _ hh => ?_)
                                            refine lv_aload_n C.1 C.2.1 dL_law_898 rfl (lv_at hl 0 rfl) ?_
                                            refine lv_iload C.1 C.2.1 dL_law_899 (lv_at hl 4 rfl) ?_
                                            refine lv_iconst (v := 5) C.1 C.2.1 dL_law_901 (by decide) ?_
                                            refine lv_iadd C.1 C.2.1 dL_law_902 ?_
                                            refine r_scr C hX hbs hbG hs dL_law_903 hh (fun x184 _ hh => ?_)
                                            refine r_cV (hroom := ⟨(show _ ≤ _ by (try simp only [LR]); omega), (show _ ≤ _ by (try simp only [LR]); omega)⟩) C X hm hs mlL_96 mvL_96 hh (vv := fun r => some (.long r.1)) (hp := fun r => r.2) (fun b r hg => c_X11_far l G h b _ _ _ _ _ r hg) rfl rfl (Nat.le_of_ble_eq_true rfl) (Nat.le_of_ble_eq_true rfl) (Nat.le_of_ble_eq_true rfl) hl.1 dL_law_904 (fun b186 r185 H locs hgr185 hh hm hs => ?_)
                                            refine W.eq (g2 := F0 m 907 ls [.long r185.1]) rfl ?_
                                            refine r_aload_n C.1 C.2.1 dL_law_907 rfl (lv_at hl 2 rfl) ?_
                                            refine lv_aload_n C.1 C.2.1 dL_law_908 rfl (lv_at hl 0 rfl) ?_
                                            refine lv_iload C.1 C.2.1 dL_law_909 (lv_at hl 4 rfl) ?_
                                            refine lv_iconst (v := 1) C.1 C.2.1 dL_law_911 (by decide) ?_
                                            refine lv_iadd C.1 C.2.1 dL_law_912 ?_
                                            refine r_scr C hX hbs hbG hs dL_law_913 hh (fun x187 _ hh => ?_)
                                            refine lv_aload_n C.1 C.2.1 dL_law_914 rfl (lv_at hl 0 rfl) ?_
                                            refine lv_iload C.1 C.2.1 dL_law_915 (lv_at hl 4 rfl) ?_
                                            refine lv_iconst (v := 2) C.1 C.2.1 dL_law_917 (by decide) ?_
                                            refine lv_iadd C.1 C.2.1 dL_law_918 ?_
                                            refine r_scr C hX hbs hbG hs dL_law_919 hh (fun x188 _ hh => ?_)
                                            refine lv_aload_n C.1 C.2.1 dL_law_920 rfl (lv_at hl 0 rfl) ?_
                                            refine lv_iload C.1 C.2.1 dL_law_921 (lv_at hl 4 rfl) ?_
                                            refine lv_iconst (v := 3) C.1 C.2.1 dL_law_923 (by decide) ?_
                                            refine lv_iadd C.1 C.2.1 dL_law_924 ?_
                                            refine r_scr C hX hbs hbG hs dL_law_925 hh (fun x189 _ hh => ?_)
                                            refine lv_aload_n C.1 C.2.1 dL_law_926 rfl (lv_at hl 0 rfl) ?_
                                            refine lv_iload C.1 C.2.1 dL_law_927 (lv_at hl 4 rfl) ?_
                                            refine lv_iconst (v := 4) C.1 C.2.1 dL_law_929 (by decide) ?_
                                            refine lv_iadd C.1 C.2.1 dL_law_930 ?_
                                            refine r_scr C hX hbs hbG hs dL_law_931 hh (fun x190 _ hh => ?_)
                                            refine lv_aload_n C.1 C.2.1 dL_law_932 rfl (lv_at hl 0 rfl) ?_
                                            refine lv_iload C.1 C.2.1 dL_law_933 (lv_at hl 4 rfl) ?_
                                            refine lv_iconst (v := 5) C.1 C.2.1 dL_law_935 (by decide) ?_
                                            refine lv_iadd C.1 C.2.1 dL_law_936 ?_
                                            refine r_scr C hX hbs hbG hs dL_law_937 hh (fun x191 _ hh => ?_)
                                            refine r_cV (hroom := ⟨(show _ ≤ _ by (try simp only [LR]); omega), (show _ ≤ _ by (try simp only [LR]); omega)⟩) C X hm hs mlL_99 mvL_99 hh (vv := fun r => some (.long r.1)) (hp := fun r => r.2) (fun b r hg => c_X16_far l G r185.2 b _ _ _ _ _ r hg) rfl rfl (Nat.le_of_ble_eq_true rfl) (Nat.le_of_ble_eq_true rfl) (Nat.le_of_ble_eq_true rfl) hl.1 dL_law_938 (fun b193 r192 H locs hgr192 hh hm hs => ?_)
                                            refine W.eq (g2 := F0 m 941 ls [.long r192.1, .long r185.1]) rfl ?_
                                            refine W.lcmp C.1 C.2.1 dL_law_941 ?_
                                            refine lv_if_eq (tgt := 1705) C.1 C.2.1 dL_law_942 (by decide) (fun c194 => ?_) (fun c194 => ?_)
                                            · rw [if_pos c194] at hh
                                              refine lv_iinc (v := (v4 + 7)) (lv' := [(4, .int (v4 + 7)), (0, .ref b), (1, va_rf v1), (2, va_rf v2), (3, va_rf v3)]) C.1 C.2.1 dL_law_1705 hl (k := 4) rfl rfl (by decide) (by simp [va_cat, vc_i, vc_l, vc_r]) (fun ls hl => ?_)
                                              refine lv_goto (tgt := 23) C.1 C.2.1 dL_law_1708 (by decide) ?_
                                              refine W.widen (k := ((513 - n) * 110 + 249)) (n := ((513 - n) * 1149 + 11693)) (by omega) (by omega) ?_
                                              exact ih (by omega) _ _ _ _ _ _ _ _  hm hs (lv_sub hl [1, 2, 3, 4, 0] rfl) hh
                                            · rw [if_neg c194] at hh
                                              refine lv_iconst (v := 0) C.1 C.2.1 dL_law_945 (by decide) ?_
                                              cases hh
                                          · rw [if_neg c2_17] at hh
                                            by_cases c2_18 : (x1 &&& 63) = 18
                                            · rw [if_pos c2_18] at hh
                                              refine r_tsw (tgt := 947) C dL_law_40 c2_18 (by decide) (by decide) rfl (by decide) ?_
                                              refine r_aload_n C.1 C.2.1 dL_law_947 rfl (lv_at hl 1 rfl) ?_
                                              refine lv_aload_n C.1 C.2.1 dL_law_948 rfl (lv_at hl 0 rfl) ?_
                                              refine lv_iload C.1 C.2.1 dL_law_949 (lv_at hl 4 rfl) ?_
                                              refine lv_iconst (v := 1) C.1 C.2.1 dL_law_951 (by decide) ?_
                                              refine lv_iadd C.1 C.2.1 dL_law_952 ?_
                                              refine r_scr C hX hbs hbG hs dL_law_953 hh (fun x195 _ hh => ?_)
                                              refine lv_aload_n C.1 C.2.1 dL_law_954 rfl (lv_at hl 0 rfl) ?_
                                              refine lv_iload C.1 C.2.1 dL_law_955 (lv_at hl 4 rfl) ?_
                                              refine lv_iconst (v := 2) C.1 C.2.1 dL_law_957 (by decide) ?_
                                              refine lv_iadd C.1 C.2.1 dL_law_958 ?_
                                              refine r_scr C hX hbs hbG hs dL_law_959 hh (fun x196 _ hh => ?_)
                                              refine lv_aload_n C.1 C.2.1 dL_law_960 rfl (lv_at hl 0 rfl) ?_
                                              refine lv_iload C.1 C.2.1 dL_law_961 (lv_at hl 4 rfl) ?_
                                              refine lv_iconst (v := 3) C.1 C.2.1 dL_law_963 (by decide) ?_
                                              refine lv_iadd C.1 C.2.1 dL_law_964 ?_
                                              refine r_scr C hX hbs hbG hs dL_law_965 hh (fun x197 _ hh => ?_)
                                              refine r_cV (hroom := ⟨(show _ ≤ _ by (try simp only [LR]); omega), (show _ ≤ _ by (try simp only [LR]); omega)⟩) C X hm hs mlL_100 mvL_100 hh (vv := fun r => some (.int r.1)) (hp := fun r => r.2) (fun b r hg => c_X11_known l G h b _ _ _ r hg) rfl rfl (Nat.le_of_ble_eq_true rfl) (Nat.le_of_ble_eq_true rfl) (Nat.le_of_ble_eq_true rfl) hl.1 dL_law_966 (fun b199 r198 H locs hgr198 hh hm hs => ?_)
                                              refine W.eq (g2 := F0 m 969 ls [.int r198.1]) rfl ?_
                                              refine r_aload_n C.1 C.2.1 dL_law_969 rfl (lv_at hl 2 rfl) ?_
                                              refine lv_aload_n C.1 C.2.1 dL_law_970 rfl (lv_at hl 0 rfl) ?_
                                              refine lv_iload C.1 C.2.1 dL_law_971 (lv_at hl 4 rfl) ?_
                                              refine lv_iconst (v := 1) C.1 C.2.1 dL_law_973 (by decide) ?_
                                              refine lv_iadd C.1 C.2.1 dL_law_974 ?_
                                              refine r_scr C hX hbs hbG hs dL_law_975 hh (fun x200 _ hh => ?_)
                                              refine lv_aload_n C.1 C.2.1 dL_law_976 rfl (lv_at hl 0 rfl) ?_
                                              refine lv_iload C.1 C.2.1 dL_law_977 (lv_at hl 4 rfl) ?_
                                              refine lv_iconst (v := 2) C.1 C.2.1 dL_law_979 (by decide) ?_
                                              refine lv_iadd C.1 C.2.1 dL_law_980 ?_
                                              refine r_scr C hX hbs hbG hs dL_law_981 hh (fun x201 _ hh => ?_)
                                              refine lv_aload_n C.1 C.2.1 dL_law_982 rfl (lv_at hl 0 rfl) ?_
                                              refine lv_iload C.1 C.2.1 dL_law_983 (lv_at hl 4 rfl) ?_
                                              refine lv_iconst (v := 3) C.1 C.2.1 dL_law_985 (by decide) ?_
                                              refine lv_iadd C.1 C.2.1 dL_law_986 ?_
                                              refine r_scr C hX hbs hbG hs dL_law_987 hh (fun x202 _ hh => ?_)
                                              refine r_cV (hroom := ⟨(show _ ≤ _ by (try simp only [LR]); omega), (show _ ≤ _ by (try simp only [LR]); omega)⟩) C X hm hs mlL_104 mvL_104 hh (vv := fun r => some (.int r.1)) (hp := fun r => r.2) (fun b r hg => c_X16_known l G r198.2 b _ _ _ r hg) rfl rfl (Nat.le_of_ble_eq_true rfl) (Nat.le_of_ble_eq_true rfl) (Nat.le_of_ble_eq_true rfl) hl.1 dL_law_988 (fun b204 r203 H locs hgr203 hh hm hs => ?_)
                                              refine W.eq (g2 := F0 m 991 ls [.int r203.1, .int r198.1]) rfl ?_
                                              refine lv_icmp_eq (tgt := 1705) C.1 C.2.1 dL_law_991 (by decide) (fun c205 => ?_) (fun c205 => ?_)
                                              · rw [if_pos c205] at hh
                                                refine lv_iinc (v := (v4 + 7)) (lv' := [(4, .int (v4 + 7)), (0, .ref b), (1, va_rf v1), (2, va_rf v2), (3, va_rf v3)]) C.1 C.2.1 dL_law_1705 hl (k := 4) rfl rfl (by decide) (by simp [va_cat, vc_i, vc_l, vc_r]) (fun ls hl => ?_)
                                                refine lv_goto (tgt := 23) C.1 C.2.1 dL_law_1708 (by decide) ?_
                                                refine W.widen (k := ((513 - n) * 110 + 249)) (n := ((513 - n) * 1149 + 11693)) (by omega) (by omega) ?_
                                                exact ih (by omega) _ _ _ _ _ _ _ _  hm hs (lv_sub hl [1, 2, 3, 4, 0] rfl) hh
                                              · rw [if_neg c205] at hh
                                                refine lv_iconst (v := 0) C.1 C.2.1 dL_law_994 (by decide) ?_
                                                cases hh
                                            · rw [if_neg c2_18] at hh
                                              by_cases c2_19 : (x1 &&& 63) = 19
                                              · rw [if_pos c2_19] at hh
                                                refine r_tsw (tgt := 996) C dL_law_40 c2_19 (by decide) (by decide) rfl (by decide) ?_
                                                refine r_aload_n C.1 C.2.1 dL_law_996 rfl (lv_at hl 1 rfl) ?_
                                                refine lv_aload_n C.1 C.2.1 dL_law_997 rfl (lv_at hl 0 rfl) ?_
                                                refine lv_iload C.1 C.2.1 dL_law_998 (lv_at hl 4 rfl) ?_
                                                refine lv_iconst (v := 1) C.1 C.2.1 dL_law_1000 (by decide) ?_
                                                refine lv_iadd C.1 C.2.1 dL_law_1001 ?_
                                                refine r_scr C hX hbs hbG hs dL_law_1002 hh (fun x206 _ hh => ?_)
                                                refine lv_aload_n C.1 C.2.1 dL_law_1003 rfl (lv_at hl 0 rfl) ?_
                                                refine lv_iload C.1 C.2.1 dL_law_1004 (lv_at hl 4 rfl) ?_
                                                refine lv_iconst (v := 2) C.1 C.2.1 dL_law_1006 (by decide) ?_
                                                refine lv_iadd C.1 C.2.1 dL_law_1007 ?_
                                                refine r_scr C hX hbs hbG hs dL_law_1008 hh (fun x207 _ hh => ?_)
                                                refine lv_aload_n C.1 C.2.1 dL_law_1009 rfl (lv_at hl 0 rfl) ?_
                                                refine lv_iload C.1 C.2.1 dL_law_1010 (lv_at hl 4 rfl) ?_
                                                refine lv_iconst (v := 3) C.1 C.2.1 dL_law_1012 (by decide) ?_
                                                refine lv_iadd C.1 C.2.1 dL_law_1013 ?_
                                                refine r_scr C hX hbs hbG hs dL_law_1014 hh (fun x208 _ hh => ?_)
                                                refine lv_aload_n C.1 C.2.1 dL_law_1015 rfl (lv_at hl 0 rfl) ?_
                                                refine lv_iload C.1 C.2.1 dL_law_1016 (lv_at hl 4 rfl) ?_
                                                refine lv_iconst (v := 4) C.1 C.2.1 dL_law_1018 (by decide) ?_
                                                refine lv_iadd C.1 C.2.1 dL_law_1019 ?_
                                                refine r_scr C hX hbs hbG hs dL_law_1020 hh (fun x209 _ hh => ?_)
                                                refine lv_if_eq (tgt := 1028) C.1 C.2.1 dL_law_1021 (by decide) (fun c236 => ?_) (fun c236 => ?_)
                                                · rw [if_pos c236] at hh
                                                  refine lv_iconst (v := 0) C.1 C.2.1 dL_law_1028 (by decide) ?_
                                                  refine r_cV (hroom := ⟨(show _ ≤ _ by (try simp only [LR]); omega), (show _ ≤ _ by (try simp only [LR]); omega)⟩) C X hm hs mlL_105 mvL_105 hh (vv := fun r => some (.long r.1)) (hp := fun r => r.2) (fun b r hg => c_X11_agreed l G h b _ _ _ _ r hg) rfl rfl (Nat.le_of_ble_eq_true rfl) (Nat.le_of_ble_eq_true rfl) (Nat.le_of_ble_eq_true rfl) hl.1 dL_law_1029 (fun b211 r210 H locs hgr210 hh hm hs => ?_)
                                                  refine W.eq (g2 := F0 m 1032 ls [.long r210.1]) rfl ?_
                                                  refine r_aload_n C.1 C.2.1 dL_law_1032 rfl (lv_at hl 2 rfl) ?_
                                                  refine lv_aload_n C.1 C.2.1 dL_law_1033 rfl (lv_at hl 0 rfl) ?_
                                                  refine lv_iload C.1 C.2.1 dL_law_1034 (lv_at hl 4 rfl) ?_
                                                  refine lv_iconst (v := 1) C.1 C.2.1 dL_law_1036 (by decide) ?_
                                                  refine lv_iadd C.1 C.2.1 dL_law_1037 ?_
                                                  refine r_scr C hX hbs hbG hs dL_law_1038 hh (fun x212 _ hh => ?_)
                                                  refine lv_aload_n C.1 C.2.1 dL_law_1039 rfl (lv_at hl 0 rfl) ?_
                                                  refine lv_iload C.1 C.2.1 dL_law_1040 (lv_at hl 4 rfl) ?_
                                                  refine lv_iconst (v := 2) C.1 C.2.1 dL_law_1042 (by decide) ?_
                                                  refine lv_iadd C.1 C.2.1 dL_law_1043 ?_
                                                  refine r_scr C hX hbs hbG hs dL_law_1044 hh (fun x213 _ hh => ?_)
                                                  refine lv_aload_n C.1 C.2.1 dL_law_1045 rfl (lv_at hl 0 rfl) ?_
                                                  refine lv_iload C.1 C.2.1 dL_law_1046 (lv_at hl 4 rfl) ?_
                                                  refine lv_iconst (v := 3) C.1 C.2.1 dL_law_1048 (by decide) ?_
                                                  refine lv_iadd C.1 C.2.1 dL_law_1049 ?_
                                                  refine r_scr C hX hbs hbG hs dL_law_1050 hh (fun x214 _ hh => ?_)
                                                  refine lv_aload_n C.1 C.2.1 dL_law_1051 rfl (lv_at hl 0 rfl) ?_
                                                  refine lv_iload C.1 C.2.1 dL_law_1052 (lv_at hl 4 rfl) ?_
                                                  refine lv_iconst (v := 4) C.1 C.2.1 dL_law_1054 (by decide) ?_
                                                  refine lv_iadd C.1 C.2.1 dL_law_1055 ?_
                                                  refine r_scr C hX hbs hbG hs dL_law_1056 hh (fun x215 _ hh => ?_)
                                                  refine lv_if_eq (tgt := 1064) C.1 C.2.1 dL_law_1057 (by decide) (fun c222 => ?_) (fun c222 => ?_)
                                                  · rw [if_pos c222] at hh
                                                    refine lv_iconst (v := 0) C.1 C.2.1 dL_law_1064 (by decide) ?_
                                                    refine r_cV (hroom := ⟨(show _ ≤ _ by (try simp only [LR]); omega), (show _ ≤ _ by (try simp only [LR]); omega)⟩) C X hm hs mlL_108 mvL_108 hh (vv := fun r => some (.long r.1)) (hp := fun r => r.2) (fun b r hg => c_X16_agreed l G r210.2 b _ _ _ _ r hg) rfl rfl (Nat.le_of_ble_eq_true rfl) (Nat.le_of_ble_eq_true rfl) (Nat.le_of_ble_eq_true rfl) hl.1 dL_law_1065 (fun b217 r216 H locs hgr216 hh hm hs => ?_)
                                                    refine W.eq (g2 := F0 m 1068 ls [.long r216.1, .long r210.1]) rfl ?_
                                                    refine W.lcmp C.1 C.2.1 dL_law_1068 ?_
                                                    refine lv_if_eq (tgt := 1705) C.1 C.2.1 dL_law_1069 (by decide) (fun c218 => ?_) (fun c218 => ?_)
                                                    · rw [if_pos c218] at hh
                                                      refine lv_iinc (v := (v4 + 7)) (lv' := [(4, .int (v4 + 7)), (0, .ref b), (1, va_rf v1), (2, va_rf v2), (3, va_rf v3)]) C.1 C.2.1 dL_law_1705 hl (k := 4) rfl rfl (by decide) (by simp [va_cat, vc_i, vc_l, vc_r]) (fun ls hl => ?_)
                                                      refine lv_goto (tgt := 23) C.1 C.2.1 dL_law_1708 (by decide) ?_
                                                      refine W.widen (k := ((513 - n) * 110 + 249)) (n := ((513 - n) * 1149 + 11693)) (by omega) (by omega) ?_
                                                      exact ih (by omega) _ _ _ _ _ _ _ _  hm hs (lv_sub hl [1, 2, 3, 4, 0] rfl) hh
                                                    · rw [if_neg c218] at hh
                                                      refine lv_iconst (v := 0) C.1 C.2.1 dL_law_1072 (by decide) ?_
                                                      cases hh
                                                  · rw [if_neg c222] at hh
                                                    refine lv_iconst (v := 1) C.1 C.2.1 dL_law_1060 (by decide) ?_
                                                    refine lv_goto (tgt := 1065) C.1 C.2.1 dL_law_1061 (by decide) ?_
                                                    refine r_cV (hroom := ⟨(show _ ≤ _ by (try simp only [LR]); omega), (show _ ≤ _ by (try simp only [LR]); omega)⟩) C X hm hs mlL_108 mvL_108 hh (vv := fun r => some (.long r.1)) (hp := fun r => r.2) (fun b r hg => c_X16_agreed l G r210.2 b _ _ _ _ r hg) rfl rfl (Nat.le_of_ble_eq_true rfl) (Nat.le_of_ble_eq_true rfl) (Nat.le_of_ble_eq_true rfl) hl.1 dL_law_1065 (fun b220 r219 H locs hgr219 hh hm hs => ?_)
                                                    refine W.eq (g2 := F0 m 1068 ls [.long r219.1, .long r210.1]) rfl ?_
                                                    refine W.lcmp C.1 C.2.1 dL_law_1068 ?_
                                                    refine lv_if_eq (tgt := 1705) C.1 C.2.1 dL_law_1069 (by decide) (fun c221 => ?_) (fun c221 => ?_)
                                                    · rw [if_pos c221] at hh
                                                      refine lv_iinc (v := (v4 + 7)) (lv' := [(4, .int (v4 + 7)), (0, .ref b), (1, va_rf v1), (2, va_rf v2), (3, va_rf v3)]) C.1 C.2.1 dL_law_1705 hl (k := 4) rfl rfl (by decide) (by simp [va_cat, vc_i, vc_l, vc_r]) (fun ls hl => ?_)
                                                      refine lv_goto (tgt := 23) C.1 C.2.1 dL_law_1708 (by decide) ?_
                                                      refine W.widen (k := ((513 - n) * 110 + 249)) (n := ((513 - n) * 1149 + 11693)) (by omega) (by omega) ?_
                                                      exact ih (by omega) _ _ _ _ _ _ _ _  hm hs (lv_sub hl [1, 2, 3, 4, 0] rfl) hh
                                                    · rw [if_neg c221] at hh
                                                      refine lv_iconst (v := 0) C.1 C.2.1 dL_law_1072 (by decide) ?_
                                                      cases hh
                                                · rw [if_neg c236] at hh
                                                  refine lv_iconst (v := 1) C.1 C.2.1 dL_law_1024 (by decide) ?_
                                                  refine lv_goto (tgt := 1029) C.1 C.2.1 dL_law_1025 (by decide) ?_
                                                  refine r_cV (hroom := ⟨(show _ ≤ _ by (try simp only [LR]); omega), (show _ ≤ _ by (try simp only [LR]); omega)⟩) C X hm hs mlL_105 mvL_105 hh (vv := fun r => some (.long r.1)) (hp := fun r => r.2) (fun b r hg => c_X11_agreed l G h b _ _ _ _ r hg) rfl rfl (Nat.le_of_ble_eq_true rfl) (Nat.le_of_ble_eq_true rfl) (Nat.le_of_ble_eq_true rfl) hl.1 dL_law_1029 (fun b224 r223 H locs hgr223 hh hm hs => ?_)
                                                  refine W.eq (g2 := F0 m 1032 ls [.long r223.1]) rfl ?_
                                                  refine r_aload_n C.1 C.2.1 dL_law_1032 rfl (lv_at hl 2 rfl) ?_
                                                  refine lv_aload_n C.1 C.2.1 dL_law_1033 rfl (lv_at hl 0 rfl) ?_
                                                  refine lv_iload C.1 C.2.1 dL_law_1034 (lv_at hl 4 rfl) ?_
                                                  refine lv_iconst (v := 1) C.1 C.2.1 dL_law_1036 (by decide) ?_
                                                  refine lv_iadd C.1 C.2.1 dL_law_1037 ?_
                                                  refine r_scr C hX hbs hbG hs dL_law_1038 hh (fun x225 _ hh => ?_)
                                                  refine lv_aload_n C.1 C.2.1 dL_law_1039 rfl (lv_at hl 0 rfl) ?_
                                                  refine lv_iload C.1 C.2.1 dL_law_1040 (lv_at hl 4 rfl) ?_
                                                  refine lv_iconst (v := 2) C.1 C.2.1 dL_law_1042 (by decide) ?_
                                                  refine lv_iadd C.1 C.2.1 dL_law_1043 ?_
                                                  refine r_scr C hX hbs hbG hs dL_law_1044 hh (fun x226 _ hh => ?_)
                                                  refine lv_aload_n C.1 C.2.1 dL_law_1045 rfl (lv_at hl 0 rfl) ?_
                                                  refine lv_iload C.1 C.2.1 dL_law_1046 (lv_at hl 4 rfl) ?_
                                                  refine lv_iconst (v := 3) C.1 C.2.1 dL_law_1048 (by decide) ?_
                                                  refine lv_iadd C.1 C.2.1 dL_law_1049 ?_
                                                  refine r_scr C hX hbs hbG hs dL_law_1050 hh (fun x227 _ hh => ?_)
                                                  refine lv_aload_n C.1 C.2.1 dL_law_1051 rfl (lv_at hl 0 rfl) ?_
                                                  refine lv_iload C.1 C.2.1 dL_law_1052 (lv_at hl 4 rfl) ?_
                                                  refine lv_iconst (v := 4) C.1 C.2.1 dL_law_1054 (by decide) ?_
                                                  refine lv_iadd C.1 C.2.1 dL_law_1055 ?_
                                                  refine r_scr C hX hbs hbG hs dL_law_1056 hh (fun x228 _ hh => ?_)
                                                  refine lv_if_eq (tgt := 1064) C.1 C.2.1 dL_law_1057 (by decide) (fun c235 => ?_) (fun c235 => ?_)
                                                  · rw [if_pos c235] at hh
                                                    refine lv_iconst (v := 0) C.1 C.2.1 dL_law_1064 (by decide) ?_
                                                    refine r_cV (hroom := ⟨(show _ ≤ _ by (try simp only [LR]); omega), (show _ ≤ _ by (try simp only [LR]); omega)⟩) C X hm hs mlL_108 mvL_108 hh (vv := fun r => some (.long r.1)) (hp := fun r => r.2) (fun b r hg => c_X16_agreed l G r223.2 b _ _ _ _ r hg) rfl rfl (Nat.le_of_ble_eq_true rfl) (Nat.le_of_ble_eq_true rfl) (Nat.le_of_ble_eq_true rfl) hl.1 dL_law_1065 (fun b230 r229 H locs hgr229 hh hm hs => ?_)
                                                    refine W.eq (g2 := F0 m 1068 ls [.long r229.1, .long r223.1]) rfl ?_
                                                    refine W.lcmp C.1 C.2.1 dL_law_1068 ?_
                                                    refine lv_if_eq (tgt := 1705) C.1 C.2.1 dL_law_1069 (by decide) (fun c231 => ?_) (fun c231 => ?_)
                                                    · rw [if_pos c231] at hh
                                                      refine lv_iinc (v := (v4 + 7)) (lv' := [(4, .int (v4 + 7)), (0, .ref b), (1, va_rf v1), (2, va_rf v2), (3, va_rf v3)]) C.1 C.2.1 dL_law_1705 hl (k := 4) rfl rfl (by decide) (by simp [va_cat, vc_i, vc_l, vc_r]) (fun ls hl => ?_)
                                                      refine lv_goto (tgt := 23) C.1 C.2.1 dL_law_1708 (by decide) ?_
                                                      refine W.widen (k := ((513 - n) * 110 + 249)) (n := ((513 - n) * 1149 + 11693)) (by omega) (by omega) ?_
                                                      exact ih (by omega) _ _ _ _ _ _ _ _  hm hs (lv_sub hl [1, 2, 3, 4, 0] rfl) hh
                                                    · rw [if_neg c231] at hh
                                                      refine lv_iconst (v := 0) C.1 C.2.1 dL_law_1072 (by decide) ?_
                                                      cases hh
                                                  · rw [if_neg c235] at hh
                                                    refine lv_iconst (v := 1) C.1 C.2.1 dL_law_1060 (by decide) ?_
                                                    refine lv_goto (tgt := 1065) C.1 C.2.1 dL_law_1061 (by decide) ?_
                                                    refine r_cV (hroom := ⟨(show _ ≤ _ by (try simp only [LR]); omega), (show _ ≤ _ by (try simp only [LR]); omega)⟩) C X hm hs mlL_108 mvL_108 hh (vv := fun r => some (.long r.1)) (hp := fun r => r.2) (fun b r hg => c_X16_agreed l G r223.2 b _ _ _ _ r hg) rfl rfl (Nat.le_of_ble_eq_true rfl) (Nat.le_of_ble_eq_true rfl) (Nat.le_of_ble_eq_true rfl) hl.1 dL_law_1065 (fun b233 r232 H locs hgr232 hh hm hs => ?_)
                                                    refine W.eq (g2 := F0 m 1068 ls [.long r232.1, .long r223.1]) rfl ?_
                                                    refine W.lcmp C.1 C.2.1 dL_law_1068 ?_
                                                    refine lv_if_eq (tgt := 1705) C.1 C.2.1 dL_law_1069 (by decide) (fun c234 => ?_) (fun c234 => ?_)
                                                    · rw [if_pos c234] at hh
                                                      refine lv_iinc (v := (v4 + 7)) (lv' := [(4, .int (v4 + 7)), (0, .ref b), (1, va_rf v1), (2, va_rf v2), (3, va_rf v3)]) C.1 C.2.1 dL_law_1705 hl (k := 4) rfl rfl (by decide) (by simp [va_cat, vc_i, vc_l, vc_r]) (fun ls hl => ?_)
                                                      refine lv_goto (tgt := 23) C.1 C.2.1 dL_law_1708 (by decide) ?_
                                                      refine W.widen (k := ((513 - n) * 110 + 249)) (n := ((513 - n) * 1149 + 11693)) (by omega) (by omega) ?_
                                                      exact ih (by omega) _ _ _ _ _ _ _ _  hm hs (lv_sub hl [1, 2, 3, 4, 0] rfl) hh
                                                    · rw [if_neg c234] at hh
                                                      refine lv_iconst (v := 0) C.1 C.2.1 dL_law_1072 (by decide) ?_
                                                      cases hh
                                              · rw [if_neg c2_19] at hh
                                                by_cases c2_20 : (x1 &&& 63) = 20
                                                · rw [if_pos c2_20] at hh
                                                  refine r_tsw (tgt := 1074) C dL_law_40 c2_20 (by decide) (by decide) rfl (by decide) ?_
                                                  refine r_aload_n C.1 C.2.1 dL_law_1074 rfl (lv_at hl 1 rfl) ?_
                                                  refine lv_aload_n C.1 C.2.1 dL_law_1075 rfl (lv_at hl 0 rfl) ?_
                                                  refine lv_iload C.1 C.2.1 dL_law_1076 (lv_at hl 4 rfl) ?_
                                                  refine lv_iconst (v := 1) C.1 C.2.1 dL_law_1078 (by decide) ?_
                                                  refine lv_iadd C.1 C.2.1 dL_law_1079 ?_
                                                  refine r_scr C hX hbs hbG hs dL_law_1080 hh (fun x237 _ hh => ?_)
                                                  refine lv_aload_n C.1 C.2.1 dL_law_1081 rfl (lv_at hl 0 rfl) ?_
                                                  refine lv_iload C.1 C.2.1 dL_law_1082 (lv_at hl 4 rfl) ?_
                                                  refine lv_iconst (v := 2) C.1 C.2.1 dL_law_1084 (by decide) ?_
                                                  refine lv_iadd C.1 C.2.1 dL_law_1085 ?_
                                                  refine r_scr C hX hbs hbG hs dL_law_1086 hh (fun x238 _ hh => ?_)
                                                  refine lv_aload_n C.1 C.2.1 dL_law_1087 rfl (lv_at hl 0 rfl) ?_
                                                  refine lv_iload C.1 C.2.1 dL_law_1088 (lv_at hl 4 rfl) ?_
                                                  refine lv_iconst (v := 3) C.1 C.2.1 dL_law_1090 (by decide) ?_
                                                  refine lv_iadd C.1 C.2.1 dL_law_1091 ?_
                                                  refine r_scr C hX hbs hbG hs dL_law_1092 hh (fun x239 _ hh => ?_)
                                                  refine r_cV (hroom := ⟨(show _ ≤ _ by (try simp only [LR]); omega), (show _ ≤ _ by (try simp only [LR]); omega)⟩) C X hm hs mlL_109 mvL_109 hh (vv := fun r => some (.int r.1)) (hp := fun r => r.2) (fun b r hg => c_X11_group l G h b _ _ _ r hg) rfl rfl (Nat.le_of_ble_eq_true rfl) (Nat.le_of_ble_eq_true rfl) (Nat.le_of_ble_eq_true rfl) hl.1 dL_law_1093 (fun b241 r240 H locs hgr240 hh hm hs => ?_)
                                                  refine W.eq (g2 := F0 m 1096 ls [.int r240.1]) rfl ?_
                                                  refine r_aload_n C.1 C.2.1 dL_law_1096 rfl (lv_at hl 2 rfl) ?_
                                                  refine lv_aload_n C.1 C.2.1 dL_law_1097 rfl (lv_at hl 0 rfl) ?_
                                                  refine lv_iload C.1 C.2.1 dL_law_1098 (lv_at hl 4 rfl) ?_
                                                  refine lv_iconst (v := 1) C.1 C.2.1 dL_law_1100 (by decide) ?_
                                                  refine lv_iadd C.1 C.2.1 dL_law_1101 ?_
                                                  refine r_scr C hX hbs hbG hs dL_law_1102 hh (fun x242 _ hh => ?_)
                                                  refine lv_aload_n C.1 C.2.1 dL_law_1103 rfl (lv_at hl 0 rfl) ?_
                                                  refine lv_iload C.1 C.2.1 dL_law_1104 (lv_at hl 4 rfl) ?_
                                                  refine lv_iconst (v := 2) C.1 C.2.1 dL_law_1106 (by decide) ?_
                                                  refine lv_iadd C.1 C.2.1 dL_law_1107 ?_
                                                  refine r_scr C hX hbs hbG hs dL_law_1108 hh (fun x243 _ hh => ?_)
                                                  refine lv_aload_n C.1 C.2.1 dL_law_1109 rfl (lv_at hl 0 rfl) ?_
                                                  refine lv_iload C.1 C.2.1 dL_law_1110 (lv_at hl 4 rfl) ?_
                                                  refine lv_iconst (v := 3) C.1 C.2.1 dL_law_1112 (by decide) ?_
                                                  refine lv_iadd C.1 C.2.1 dL_law_1113 ?_
                                                  refine r_scr C hX hbs hbG hs dL_law_1114 hh (fun x244 _ hh => ?_)
                                                  refine r_cV (hroom := ⟨(show _ ≤ _ by (try simp only [LR]); omega), (show _ ≤ _ by (try simp only [LR]); omega)⟩) C X hm hs mlL_112 mvL_112 hh (vv := fun r => some (.int r.1)) (hp := fun r => r.2) (fun b r hg => c_X16_group l G r240.2 b _ _ _ r hg) rfl rfl (Nat.le_of_ble_eq_true rfl) (Nat.le_of_ble_eq_true rfl) (Nat.le_of_ble_eq_true rfl) hl.1 dL_law_1115 (fun b246 r245 H locs hgr245 hh hm hs => ?_)
                                                  refine W.eq (g2 := F0 m 1118 ls [.int r245.1, .int r240.1]) rfl ?_
                                                  refine lv_icmp_eq (tgt := 1705) C.1 C.2.1 dL_law_1118 (by decide) (fun c247 => ?_) (fun c247 => ?_)
                                                  · rw [if_pos c247] at hh
                                                    refine lv_iinc (v := (v4 + 7)) (lv' := [(4, .int (v4 + 7)), (0, .ref b), (1, va_rf v1), (2, va_rf v2), (3, va_rf v3)]) C.1 C.2.1 dL_law_1705 hl (k := 4) rfl rfl (by decide) (by simp [va_cat, vc_i, vc_l, vc_r]) (fun ls hl => ?_)
                                                    refine lv_goto (tgt := 23) C.1 C.2.1 dL_law_1708 (by decide) ?_
                                                    refine W.widen (k := ((513 - n) * 110 + 249)) (n := ((513 - n) * 1149 + 11693)) (by omega) (by omega) ?_
                                                    exact ih (by omega) _ _ _ _ _ _ _ _  hm hs (lv_sub hl [1, 2, 3, 4, 0] rfl) hh
                                                  · rw [if_neg c247] at hh
                                                    refine lv_iconst (v := 0) C.1 C.2.1 dL_law_1121 (by decide) ?_
                                                    cases hh
                                                · rw [if_neg c2_20] at hh
                                                  by_cases c2_21 : (x1 &&& 63) = 21
                                                  · rw [if_pos c2_21] at hh
                                                    refine r_tsw (tgt := 1123) C dL_law_40 c2_21 (by decide) (by decide) rfl (by decide) ?_
                                                    refine r_aload_n C.1 C.2.1 dL_law_1123 rfl (lv_at hl 1 rfl) ?_
                                                    refine lv_aload_n C.1 C.2.1 dL_law_1124 rfl (lv_at hl 0 rfl) ?_
                                                    refine lv_iload C.1 C.2.1 dL_law_1125 (lv_at hl 4 rfl) ?_
                                                    refine lv_iconst (v := 1) C.1 C.2.1 dL_law_1127 (by decide) ?_
                                                    refine lv_iadd C.1 C.2.1 dL_law_1128 ?_
                                                    refine r_scr C hX hbs hbG hs dL_law_1129 hh (fun x248 _ hh => ?_)
                                                    refine lv_aload_n C.1 C.2.1 dL_law_1130 rfl (lv_at hl 0 rfl) ?_
                                                    refine lv_iload C.1 C.2.1 dL_law_1131 (lv_at hl 4 rfl) ?_
                                                    refine lv_iconst (v := 2) C.1 C.2.1 dL_law_1133 (by decide) ?_
                                                    refine lv_iadd C.1 C.2.1 dL_law_1134 ?_
                                                    refine r_scr C hX hbs hbG hs dL_law_1135 hh (fun x249 _ hh => ?_)
                                                    refine lv_aload_n C.1 C.2.1 dL_law_1136 rfl (lv_at hl 0 rfl) ?_
                                                    refine lv_iload C.1 C.2.1 dL_law_1137 (lv_at hl 4 rfl) ?_
                                                    refine lv_iconst (v := 3) C.1 C.2.1 dL_law_1139 (by decide) ?_
                                                    refine lv_iadd C.1 C.2.1 dL_law_1140 ?_
                                                    refine r_scr C hX hbs hbG hs dL_law_1141 hh (fun x250 _ hh => ?_)
                                                    refine lv_aload_n C.1 C.2.1 dL_law_1142 rfl (lv_at hl 0 rfl) ?_
                                                    refine lv_iload C.1 C.2.1 dL_law_1143 (lv_at hl 4 rfl) ?_
                                                    refine lv_iconst (v := 4) C.1 C.2.1 dL_law_1145 (by decide) ?_
                                                    refine lv_iadd C.1 C.2.1 dL_law_1146 ?_
                                                    refine r_scr C hX hbs hbG hs dL_law_1147 hh (fun x251 _ hh => ?_)
                                                    refine r_cV (hroom := ⟨(show _ ≤ _ by (try simp only [LR]); omega), (show _ ≤ _ by (try simp only [LR]); omega)⟩) C X hm hs mlL_113 mvL_113 hh (vv := fun r => some (.int r.1)) (hp := fun r => r.2) (fun b r hg => c_X11_small l G h b _ _ _ _ r hg) rfl rfl (Nat.le_of_ble_eq_true rfl) (Nat.le_of_ble_eq_true rfl) (Nat.le_of_ble_eq_true rfl) hl.1 dL_law_1148 (fun b253 r252 H locs hgr252 hh hm hs => ?_)
                                                    refine W.eq (g2 := F0 m 1151 ls [.int r252.1]) rfl ?_
                                                    refine r_aload_n C.1 C.2.1 dL_law_1151 rfl (lv_at hl 2 rfl) ?_
                                                    refine lv_aload_n C.1 C.2.1 dL_law_1152 rfl (lv_at hl 0 rfl) ?_
                                                    refine lv_iload C.1 C.2.1 dL_law_1153 (lv_at hl 4 rfl) ?_
                                                    refine lv_iconst (v := 1) C.1 C.2.1 dL_law_1155 (by decide) ?_
                                                    refine lv_iadd C.1 C.2.1 dL_law_1156 ?_
                                                    refine r_scr C hX hbs hbG hs dL_law_1157 hh (fun x254 _ hh => ?_)
                                                    refine lv_aload_n C.1 C.2.1 dL_law_1158 rfl (lv_at hl 0 rfl) ?_
                                                    refine lv_iload C.1 C.2.1 dL_law_1159 (lv_at hl 4 rfl) ?_
                                                    refine lv_iconst (v := 2) C.1 C.2.1 dL_law_1161 (by decide) ?_
                                                    refine lv_iadd C.1 C.2.1 dL_law_1162 ?_
                                                    refine r_scr C hX hbs hbG hs dL_law_1163 hh (fun x255 _ hh => ?_)
                                                    refine lv_aload_n C.1 C.2.1 dL_law_1164 rfl (lv_at hl 0 rfl) ?_
                                                    refine lv_iload C.1 C.2.1 dL_law_1165 (lv_at hl 4 rfl) ?_
                                                    refine lv_iconst (v := 3) C.1 C.2.1 dL_law_1167 (by decide) ?_
                                                    refine lv_iadd C.1 C.2.1 dL_law_1168 ?_
                                                    refine r_scr C hX hbs hbG hs dL_law_1169 hh (fun x256 _ hh => ?_)
                                                    refine lv_aload_n C.1 C.2.1 dL_law_1170 rfl (lv_at hl 0 rfl) ?_
                                                    refine lv_iload C.1 C.2.1 dL_law_1171 (lv_at hl 4 rfl) ?_
                                                    refine lv_iconst (v := 4) C.1 C.2.1 dL_law_1173 (by decide) ?_
                                                    refine lv_iadd C.1 C.2.1 dL_law_1174 ?_
                                                    refine r_scr C hX hbs hbG hs dL_law_1175 hh (fun x257 _ hh => ?_)
                                                    refine r_cV (hroom := ⟨(show _ ≤ _ by (try simp only [LR]); omega), (show _ ≤ _ by (try simp only [LR]); omega)⟩) C X hm hs mlL_116 mvL_116 hh (vv := fun r => some (.int r.1)) (hp := fun r => r.2) (fun b r hg => c_X16_small l G r252.2 b _ _ _ _ r hg) rfl rfl (Nat.le_of_ble_eq_true rfl) (Nat.le_of_ble_eq_true rfl) (Nat.le_of_ble_eq_true rfl) hl.1 dL_law_1176 (fun b259 r258 H locs hgr258 hh hm hs => ?_)
                                                    refine W.eq (g2 := F0 m 1179 ls [.int r258.1, .int r252.1]) rfl ?_
                                                    refine lv_icmp_eq (tgt := 1705) C.1 C.2.1 dL_law_1179 (by decide) (fun c260 => ?_) (fun c260 => ?_)
                                                    · rw [if_pos c260] at hh
                                                      refine lv_iinc (v := (v4 + 7)) (lv' := [(4, .int (v4 + 7)), (0, .ref b), (1, va_rf v1), (2, va_rf v2), (3, va_rf v3)]) C.1 C.2.1 dL_law_1705 hl (k := 4) rfl rfl (by decide) (by simp [va_cat, vc_i, vc_l, vc_r]) (fun ls hl => ?_)
                                                      refine lv_goto (tgt := 23) C.1 C.2.1 dL_law_1708 (by decide) ?_
                                                      refine W.widen (k := ((513 - n) * 110 + 249)) (n := ((513 - n) * 1149 + 11693)) (by omega) (by omega) ?_
                                                      exact ih (by omega) _ _ _ _ _ _ _ _  hm hs (lv_sub hl [1, 2, 3, 4, 0] rfl) hh
                                                    · rw [if_neg c260] at hh
                                                      refine lv_iconst (v := 0) C.1 C.2.1 dL_law_1182 (by decide) ?_
                                                      cases hh
                                                  · rw [if_neg c2_21] at hh
                                                    by_cases c2_22 : (x1 &&& 63) = 22
                                                    · rw [if_pos c2_22] at hh
                                                      refine r_tsw (tgt := 1184) C dL_law_40 c2_22 (by decide) (by decide) rfl (by decide) ?_
                                                      refine r_aload_n C.1 C.2.1 dL_law_1184 rfl (lv_at hl 1 rfl) ?_
                                                      refine lv_aload_n C.1 C.2.1 dL_law_1185 rfl (lv_at hl 0 rfl) ?_
                                                      refine lv_iload C.1 C.2.1 dL_law_1186 (lv_at hl 4 rfl) ?_
                                                      refine lv_iconst (v := 1) C.1 C.2.1 dL_law_1188 (by decide) ?_
                                                      refine lv_iadd C.1 C.2.1 dL_law_1189 ?_
                                                      refine r_scr C hX hbs hbG hs dL_law_1190 hh (fun x261 _ hh => ?_)
                                                      refine lv_aload_n C.1 C.2.1 dL_law_1191 rfl (lv_at hl 0 rfl) ?_
                                                      refine lv_iload C.1 C.2.1 dL_law_1192 (lv_at hl 4 rfl) ?_
                                                      refine lv_iconst (v := 2) C.1 C.2.1 dL_law_1194 (by decide) ?_
                                                      refine lv_iadd C.1 C.2.1 dL_law_1195 ?_
                                                      refine r_scr C hX hbs hbG hs dL_law_1196 hh (fun x262 _ hh => ?_)
                                                      refine r_cV (hroom := ⟨(show _ ≤ _ by (try simp only [LR]); omega), (show _ ≤ _ by (try simp only [LR]); omega)⟩) C X hm hs mlL_117 mvL_117 hh (vv := fun r => some (.int r.1)) (hp := fun r => r.2) (fun b r hg => c_X11_set l G h b _ _ r hg) rfl rfl (Nat.le_of_ble_eq_true rfl) (Nat.le_of_ble_eq_true rfl) (Nat.le_of_ble_eq_true rfl) hl.1 dL_law_1197 (fun b264 r263 H locs hgr263 hh hm hs => ?_)
                                                      refine W.eq (g2 := F0 m 1200 ls [.int r263.1]) rfl ?_
                                                      refine r_aload_n C.1 C.2.1 dL_law_1200 rfl (lv_at hl 2 rfl) ?_
                                                      refine lv_aload_n C.1 C.2.1 dL_law_1201 rfl (lv_at hl 0 rfl) ?_
                                                      refine lv_iload C.1 C.2.1 dL_law_1202 (lv_at hl 4 rfl) ?_
                                                      refine lv_iconst (v := 1) C.1 C.2.1 dL_law_1204 (by decide) ?_
                                                      refine lv_iadd C.1 C.2.1 dL_law_1205 ?_
                                                      refine r_scr C hX hbs hbG hs dL_law_1206 hh (fun x265 _ hh => ?_)
                                                      refine lv_aload_n C.1 C.2.1 dL_law_1207 rfl (lv_at hl 0 rfl) ?_
                                                      refine lv_iload C.1 C.2.1 dL_law_1208 (lv_at hl 4 rfl) ?_
                                                      refine lv_iconst (v := 2) C.1 C.2.1 dL_law_1210 (by decide) ?_
                                                      refine lv_iadd C.1 C.2.1 dL_law_1211 ?_
                                                      refine r_scr C hX hbs hbG hs dL_law_1212 hh (fun x266 _ hh => ?_)
                                                      refine r_cV (hroom := ⟨(show _ ≤ _ by (try simp only [LR]); omega), (show _ ≤ _ by (try simp only [LR]); omega)⟩) C X hm hs mlL_120 mvL_120 hh (vv := fun r => some (.int r.1)) (hp := fun r => r.2) (fun b r hg => c_X16_set l G r263.2 b _ _ r hg) rfl rfl (Nat.le_of_ble_eq_true rfl) (Nat.le_of_ble_eq_true rfl) (Nat.le_of_ble_eq_true rfl) hl.1 dL_law_1213 (fun b268 r267 H locs hgr267 hh hm hs => ?_)
                                                      refine W.eq (g2 := F0 m 1216 ls [.int r267.1, .int r263.1]) rfl ?_
                                                      refine lv_icmp_eq (tgt := 1705) C.1 C.2.1 dL_law_1216 (by decide) (fun c269 => ?_) (fun c269 => ?_)
                                                      · rw [if_pos c269] at hh
                                                        refine lv_iinc (v := (v4 + 7)) (lv' := [(4, .int (v4 + 7)), (0, .ref b), (1, va_rf v1), (2, va_rf v2), (3, va_rf v3)]) C.1 C.2.1 dL_law_1705 hl (k := 4) rfl rfl (by decide) (by simp [va_cat, vc_i, vc_l, vc_r]) (fun ls hl => ?_)
                                                        refine lv_goto (tgt := 23) C.1 C.2.1 dL_law_1708 (by decide) ?_
                                                        refine W.widen (k := ((513 - n) * 110 + 249)) (n := ((513 - n) * 1149 + 11693)) (by omega) (by omega) ?_
                                                        exact ih (by omega) _ _ _ _ _ _ _ _  hm hs (lv_sub hl [1, 2, 3, 4, 0] rfl) hh
                                                      · rw [if_neg c269] at hh
                                                        refine lv_iconst (v := 0) C.1 C.2.1 dL_law_1219 (by decide) ?_
                                                        cases hh
                                                    · rw [if_neg c2_22] at hh
                                                      by_cases c2_23 : (x1 &&& 63) = 23
                                                      · rw [if_pos c2_23] at hh
                                                        refine r_tsw (tgt := 1221) C dL_law_40 c2_23 (by decide) (by decide) rfl (by decide) ?_
                                                        refine r_aload_n C.1 C.2.1 dL_law_1221 rfl (lv_at hl 1 rfl) ?_
                                                        refine lv_aload_n C.1 C.2.1 dL_law_1222 rfl (lv_at hl 0 rfl) ?_
                                                        refine lv_iload C.1 C.2.1 dL_law_1223 (lv_at hl 4 rfl) ?_
                                                        refine lv_iconst (v := 1) C.1 C.2.1 dL_law_1225 (by decide) ?_
                                                        refine lv_iadd C.1 C.2.1 dL_law_1226 ?_
                                                        refine r_scr C hX hbs hbG hs dL_law_1227 hh (fun x270 _ hh => ?_)
                                                        refine r_cV (hroom := ⟨(show _ ≤ _ by (try simp only [LR]); omega), (show _ ≤ _ by (try simp only [LR]); omega)⟩) C X hm hs mlL_121 mvL_121 hh (vv := fun r => some (.int r.1)) (hp := fun r => r.2) (fun b r hg => c_X11_shy l G h b _ r hg) rfl rfl (Nat.le_of_ble_eq_true rfl) (Nat.le_of_ble_eq_true rfl) (Nat.le_of_ble_eq_true rfl) hl.1 dL_law_1228 (fun b272 r271 H locs hgr271 hh hm hs => ?_)
                                                        refine W.eq (g2 := F0 m 1231 ls [.int r271.1]) rfl ?_
                                                        refine r_aload_n C.1 C.2.1 dL_law_1231 rfl (lv_at hl 2 rfl) ?_
                                                        refine lv_aload_n C.1 C.2.1 dL_law_1232 rfl (lv_at hl 0 rfl) ?_
                                                        refine lv_iload C.1 C.2.1 dL_law_1233 (lv_at hl 4 rfl) ?_
                                                        refine lv_iconst (v := 1) C.1 C.2.1 dL_law_1235 (by decide) ?_
                                                        refine lv_iadd C.1 C.2.1 dL_law_1236 ?_
                                                        refine r_scr C hX hbs hbG hs dL_law_1237 hh (fun x273 _ hh => ?_)
                                                        refine r_cV (hroom := ⟨(show _ ≤ _ by (try simp only [LR]); omega), (show _ ≤ _ by (try simp only [LR]); omega)⟩) C X hm hs mlL_124 mvL_124 hh (vv := fun r => some (.int r.1)) (hp := fun r => r.2) (fun b r hg => c_X16_shy l G r271.2 b _ r hg) rfl rfl (Nat.le_of_ble_eq_true rfl) (Nat.le_of_ble_eq_true rfl) (Nat.le_of_ble_eq_true rfl) hl.1 dL_law_1238 (fun b275 r274 H locs hgr274 hh hm hs => ?_)
                                                        refine W.eq (g2 := F0 m 1241 ls [.int r274.1, .int r271.1]) rfl ?_
                                                        refine lv_icmp_eq (tgt := 1705) C.1 C.2.1 dL_law_1241 (by decide) (fun c276 => ?_) (fun c276 => ?_)
                                                        · rw [if_pos c276] at hh
                                                          refine lv_iinc (v := (v4 + 7)) (lv' := [(4, .int (v4 + 7)), (0, .ref b), (1, va_rf v1), (2, va_rf v2), (3, va_rf v3)]) C.1 C.2.1 dL_law_1705 hl (k := 4) rfl rfl (by decide) (by simp [va_cat, vc_i, vc_l, vc_r]) (fun ls hl => ?_)
                                                          refine lv_goto (tgt := 23) C.1 C.2.1 dL_law_1708 (by decide) ?_
                                                          refine W.widen (k := ((513 - n) * 110 + 249)) (n := ((513 - n) * 1149 + 11693)) (by omega) (by omega) ?_
                                                          exact ih (by omega) _ _ _ _ _ _ _ _  hm hs (lv_sub hl [1, 2, 3, 4, 0] rfl) hh
                                                        · rw [if_neg c276] at hh
                                                          refine lv_iconst (v := 0) C.1 C.2.1 dL_law_1244 (by decide) ?_
                                                          cases hh
                                                      · rw [if_neg c2_23] at hh
                                                        by_cases c2_24 : (x1 &&& 63) = 24
                                                        · rw [if_pos c2_24] at hh
                                                          refine r_tsw (tgt := 1246) C dL_law_40 c2_24 (by decide) (by decide) rfl (by decide) ?_
                                                          refine r_aload_n C.1 C.2.1 dL_law_1246 rfl (lv_at hl 1 rfl) ?_
                                                          refine lv_aload_n C.1 C.2.1 dL_law_1247 rfl (lv_at hl 0 rfl) ?_
                                                          refine lv_iload C.1 C.2.1 dL_law_1248 (lv_at hl 4 rfl) ?_
                                                          refine lv_iconst (v := 1) C.1 C.2.1 dL_law_1250 (by decide) ?_
                                                          refine lv_iadd C.1 C.2.1 dL_law_1251 ?_
                                                          refine r_scr C hX hbs hbG hs dL_law_1252 hh (fun x277 _ hh => ?_)
                                                          refine lv_aload_n C.1 C.2.1 dL_law_1253 rfl (lv_at hl 0 rfl) ?_
                                                          refine lv_iload C.1 C.2.1 dL_law_1254 (lv_at hl 4 rfl) ?_
                                                          refine lv_iconst (v := 2) C.1 C.2.1 dL_law_1256 (by decide) ?_
                                                          refine lv_iadd C.1 C.2.1 dL_law_1257 ?_
                                                          refine r_scr C hX hbs hbG hs dL_law_1258 hh (fun x278 _ hh => ?_)
                                                          refine lv_aload_n C.1 C.2.1 dL_law_1259 rfl (lv_at hl 0 rfl) ?_
                                                          refine lv_iload C.1 C.2.1 dL_law_1260 (lv_at hl 4 rfl) ?_
                                                          refine lv_iconst (v := 3) C.1 C.2.1 dL_law_1262 (by decide) ?_
                                                          refine lv_iadd C.1 C.2.1 dL_law_1263 ?_
                                                          refine r_scr C hX hbs hbG hs dL_law_1264 hh (fun x279 _ hh => ?_)
                                                          refine lv_aload_n C.1 C.2.1 dL_law_1265 rfl (lv_at hl 0 rfl) ?_
                                                          refine lv_iload C.1 C.2.1 dL_law_1266 (lv_at hl 4 rfl) ?_
                                                          refine lv_iconst (v := 4) C.1 C.2.1 dL_law_1268 (by decide) ?_
                                                          refine lv_iadd C.1 C.2.1 dL_law_1269 ?_
                                                          refine r_scr C hX hbs hbG hs dL_law_1270 hh (fun x280 _ hh => ?_)
                                                          refine lv_i2l (v := x280.toInt64) C.1 C.2.1 dL_law_1271 rfl ?_
                                                          refine lv_bipush (v := 32) C.1 C.2.1 dL_law_1272 (by decide) ?_
                                                          refine lv_lshl (v := (x280.toInt64 <<< ((32 : Int32).toInt64 &&& 63))) C.1 C.2.1 dL_law_1274 rfl ?_
                                                          refine lv_aload_n C.1 C.2.1 dL_law_1275 rfl (lv_at hl 0 rfl) ?_
                                                          refine lv_iload C.1 C.2.1 dL_law_1276 (lv_at hl 4 rfl) ?_
                                                          refine lv_iconst (v := 5) C.1 C.2.1 dL_law_1278 (by decide) ?_
                                                          refine lv_iadd C.1 C.2.1 dL_law_1279 ?_
                                                          refine r_scr C hX hbs hbG hs dL_law_1280 hh (fun x281 _ hh => ?_)
                                                          refine lv_i2l (v := x281.toInt64) C.1 C.2.1 dL_law_1281 rfl ?_
                                                          refine lv_ldc2 (v := 4294967295) C.1 C.2.1 C.2.2.2.1 (C.2.2.2.2.1 _ (in_tbl q_1991 rfl)) dL_law_1282 ?_
                                                          refine lv_land C.1 C.2.1 dL_law_1285 ?_
                                                          refine lv_lor C.1 C.2.1 dL_law_1286 ?_
                                                          refine lv_aload_n C.1 C.2.1 dL_law_1287 rfl (lv_at hl 0 rfl) ?_
                                                          refine lv_iload C.1 C.2.1 dL_law_1288 (lv_at hl 4 rfl) ?_
                                                          refine lv_bipush (v := 6) C.1 C.2.1 dL_law_1290 (by decide) ?_
                                                          refine lv_iadd C.1 C.2.1 dL_law_1292 ?_
                                                          refine r_scr C hX hbs hbG hs dL_law_1293 hh (fun x282 _ hh => ?_)
                                                          refine lv_if_eq (tgt := 1301) C.1 C.2.1 dL_law_1294 (by decide) (fun c313 => ?_) (fun c313 => ?_)
                                                          · rw [if_pos c313] at hh
                                                            refine lv_iconst (v := 0) C.1 C.2.1 dL_law_1301 (by decide) ?_
                                                            refine r_cV (hroom := ⟨(show _ ≤ _ by (try simp only [LR]); omega), (show _ ≤ _ by (try simp only [LR]); omega)⟩) C X hm hs mlL_127 mvL_127 hh (vv := fun r => some (.int r.1)) (hp := fun r => r.2) (fun b r hg => c_X11_edge l G h b _ _ _ _ _ r hg) rfl rfl (Nat.le_of_ble_eq_true rfl) (Nat.le_of_ble_eq_true rfl) (Nat.le_of_ble_eq_true rfl) hl.1 dL_law_1302 (fun b284 r283 H locs hgr283 hh hm hs => ?_)
                                                            refine W.eq (g2 := F0 m 1305 ls [.int r283.1]) rfl ?_
                                                            refine r_aload_n C.1 C.2.1 dL_law_1305 rfl (lv_at hl 2 rfl) ?_
                                                            refine lv_aload_n C.1 C.2.1 dL_law_1306 rfl (lv_at hl 0 rfl) ?_
                                                            refine lv_iload C.1 C.2.1 dL_law_1307 (lv_at hl 4 rfl) ?_
                                                            refine lv_iconst (v := 1) C.1 C.2.1 dL_law_1309 (by decide) ?_
                                                            refine lv_iadd C.1 C.2.1 dL_law_1310 ?_
                                                            refine r_scr C hX hbs hbG hs dL_law_1311 hh (fun x285 _ hh => ?_)
                                                            refine lv_aload_n C.1 C.2.1 dL_law_1312 rfl (lv_at hl 0 rfl) ?_
                                                            refine lv_iload C.1 C.2.1 dL_law_1313 (lv_at hl 4 rfl) ?_
                                                            refine lv_iconst (v := 2) C.1 C.2.1 dL_law_1315 (by decide) ?_
                                                            refine lv_iadd C.1 C.2.1 dL_law_1316 ?_
                                                            refine r_scr C hX hbs hbG hs dL_law_1317 hh (fun x286 _ hh => ?_)
                                                            refine lv_aload_n C.1 C.2.1 dL_law_1318 rfl (lv_at hl 0 rfl) ?_
                                                            refine lv_iload C.1 C.2.1 dL_law_1319 (lv_at hl 4 rfl) ?_
                                                            refine lv_iconst (v := 3) C.1 C.2.1 dL_law_1321 (by decide) ?_
                                                            refine lv_iadd C.1 C.2.1 dL_law_1322 ?_
                                                            refine r_scr C hX hbs hbG hs dL_law_1323 hh (fun x287 _ hh => ?_)
                                                            refine lv_aload_n C.1 C.2.1 dL_law_1324 rfl (lv_at hl 0 rfl) ?_
                                                            refine lv_iload C.1 C.2.1 dL_law_1325 (lv_at hl 4 rfl) ?_
                                                            refine lv_iconst (v := 4) C.1 C.2.1 dL_law_1327 (by decide) ?_
                                                            refine lv_iadd C.1 C.2.1 dL_law_1328 ?_
                                                            refine r_scr C hX hbs hbG hs dL_law_1329 hh (fun x288 _ hh => ?_)
                                                            refine lv_i2l (v := x288.toInt64) C.1 C.2.1 dL_law_1330 rfl ?_
                                                            refine lv_bipush (v := 32) C.1 C.2.1 dL_law_1331 (by decide) ?_
                                                            refine lv_lshl (v := (x288.toInt64 <<< ((32 : Int32).toInt64 &&& 63))) C.1 C.2.1 dL_law_1333 rfl ?_
                                                            refine lv_aload_n C.1 C.2.1 dL_law_1334 rfl (lv_at hl 0 rfl) ?_
                                                            refine lv_iload C.1 C.2.1 dL_law_1335 (lv_at hl 4 rfl) ?_
                                                            refine lv_iconst (v := 5) C.1 C.2.1 dL_law_1337 (by decide) ?_
                                                            refine lv_iadd C.1 C.2.1 dL_law_1338 ?_
                                                            refine r_scr C hX hbs hbG hs dL_law_1339 hh (fun x289 _ hh => ?_)
                                                            refine lv_i2l (v := x289.toInt64) C.1 C.2.1 dL_law_1340 rfl ?_
                                                            refine lv_ldc2 (v := 4294967295) C.1 C.2.1 C.2.2.2.1 (C.2.2.2.2.1 _ (in_tbl q_1991 rfl)) dL_law_1341 ?_
                                                            refine lv_land C.1 C.2.1 dL_law_1344 ?_
                                                            refine lv_lor C.1 C.2.1 dL_law_1345 ?_
                                                            refine lv_aload_n C.1 C.2.1 dL_law_1346 rfl (lv_at hl 0 rfl) ?_
                                                            refine lv_iload C.1 C.2.1 dL_law_1347 (lv_at hl 4 rfl) ?_
                                                            refine lv_bipush (v := 6) C.1 C.2.1 dL_law_1349 (by decide) ?_
                                                            refine lv_iadd C.1 C.2.1 dL_law_1351 ?_
                                                            refine r_scr C hX hbs hbG hs dL_law_1352 hh (fun x290 _ hh => ?_)
                                                            refine lv_if_eq (tgt := 1360) C.1 C.2.1 dL_law_1353 (by decide) (fun c297 => ?_) (fun c297 => ?_)
                                                            · rw [if_pos c297] at hh
                                                              refine lv_iconst (v := 0) C.1 C.2.1 dL_law_1360 (by decide) ?_
                                                              refine r_cV (hroom := ⟨(show _ ≤ _ by (try simp only [LR]); omega), (show _ ≤ _ by (try simp only [LR]); omega)⟩) C X hm hs mlL_131 mvL_131 hh (vv := fun r => some (.int r.1)) (hp := fun r => r.2) (fun b r hg => c_X16_edge l G r283.2 b _ _ _ _ _ r hg) rfl rfl (Nat.le_of_ble_eq_true rfl) (Nat.le_of_ble_eq_true rfl) (Nat.le_of_ble_eq_true rfl) hl.1 dL_law_1361 (fun b292 r291 H locs hgr291 hh hm hs => ?_)
                                                              refine W.eq (g2 := F0 m 1364 ls [.int r291.1, .int r283.1]) rfl ?_
                                                              refine lv_icmp_eq (tgt := 1705) C.1 C.2.1 dL_law_1364 (by decide) (fun c293 => ?_) (fun c293 => ?_)
                                                              · rw [if_pos c293] at hh
                                                                refine lv_iinc (v := (v4 + 7)) (lv' := [(4, .int (v4 + 7)), (0, .ref b), (1, va_rf v1), (2, va_rf v2), (3, va_rf v3)]) C.1 C.2.1 dL_law_1705 hl (k := 4) rfl rfl (by decide) (by simp [va_cat, vc_i, vc_l, vc_r]) (fun ls hl => ?_)
                                                                refine lv_goto (tgt := 23) C.1 C.2.1 dL_law_1708 (by decide) ?_
                                                                refine W.widen (k := ((513 - n) * 110 + 249)) (n := ((513 - n) * 1149 + 11693)) (by omega) (by omega) ?_
                                                                exact ih (by omega) _ _ _ _ _ _ _ _  hm hs (lv_sub hl [1, 2, 3, 4, 0] rfl) hh
                                                              · rw [if_neg c293] at hh
                                                                refine lv_iconst (v := 0) C.1 C.2.1 dL_law_1367 (by decide) ?_
                                                                cases hh
                                                            · rw [if_neg c297] at hh
                                                              refine lv_iconst (v := 1) C.1 C.2.1 dL_law_1356 (by decide) ?_
                                                              refine lv_goto (tgt := 1361) C.1 C.2.1 dL_law_1357 (by decide) ?_
                                                              refine r_cV (hroom := ⟨(show _ ≤ _ by (try simp only [LR]); omega), (show _ ≤ _ by (try simp only [LR]); omega)⟩) C X hm hs mlL_131 mvL_131 hh (vv := fun r => some (.int r.1)) (hp := fun r => r.2) (fun b r hg => c_X16_edge l G r283.2 b _ _ _ _ _ r hg) rfl rfl (Nat.le_of_ble_eq_true rfl) (Nat.le_of_ble_eq_true rfl) (Nat.le_of_ble_eq_true rfl) hl.1 dL_law_1361 (fun b295 r294 H locs hgr294 hh hm hs => ?_)
                                                              refine W.eq (g2 := F0 m 1364 ls [.int r294.1, .int r283.1]) rfl ?_
                                                              refine lv_icmp_eq (tgt := 1705) C.1 C.2.1 dL_law_1364 (by decide) (fun c296 => ?_) (fun c296 => ?_)
                                                              · rw [if_pos c296] at hh
                                                                refine lv_iinc (v := (v4 + 7)) (lv' := [(4, .int (v4 + 7)), (0, .ref b), (1, va_rf v1), (2, va_rf v2), (3, va_rf v3)]) C.1 C.2.1 dL_law_1705 hl (k := 4) rfl rfl (by decide) (by simp [va_cat, vc_i, vc_l, vc_r]) (fun ls hl => ?_)
                                                                refine lv_goto (tgt := 23) C.1 C.2.1 dL_law_1708 (by decide) ?_
                                                                refine W.widen (k := ((513 - n) * 110 + 249)) (n := ((513 - n) * 1149 + 11693)) (by omega) (by omega) ?_
                                                                exact ih (by omega) _ _ _ _ _ _ _ _  hm hs (lv_sub hl [1, 2, 3, 4, 0] rfl) hh
                                                              · rw [if_neg c296] at hh
                                                                refine lv_iconst (v := 0) C.1 C.2.1 dL_law_1367 (by decide) ?_
                                                                cases hh
                                                          · rw [if_neg c313] at hh
                                                            refine lv_iconst (v := 1) C.1 C.2.1 dL_law_1297 (by decide) ?_
                                                            refine lv_goto (tgt := 1302) C.1 C.2.1 dL_law_1298 (by decide) ?_
                                                            refine r_cV (hroom := ⟨(show _ ≤ _ by (try simp only [LR]); omega), (show _ ≤ _ by (try simp only [LR]); omega)⟩) C X hm hs mlL_127 mvL_127 hh (vv := fun r => some (.int r.1)) (hp := fun r => r.2) (fun b r hg => c_X11_edge l G h b _ _ _ _ _ r hg) rfl rfl (Nat.le_of_ble_eq_true rfl) (Nat.le_of_ble_eq_true rfl) (Nat.le_of_ble_eq_true rfl) hl.1 dL_law_1302 (fun b299 r298 H locs hgr298 hh hm hs => ?_)
                                                            refine W.eq (g2 := F0 m 1305 ls [.int r298.1]) rfl ?_
                                                            refine r_aload_n C.1 C.2.1 dL_law_1305 rfl (lv_at hl 2 rfl) ?_
                                                            refine lv_aload_n C.1 C.2.1 dL_law_1306 rfl (lv_at hl 0 rfl) ?_
                                                            refine lv_iload C.1 C.2.1 dL_law_1307 (lv_at hl 4 rfl) ?_
                                                            refine lv_iconst (v := 1) C.1 C.2.1 dL_law_1309 (by decide) ?_
                                                            refine lv_iadd C.1 C.2.1 dL_law_1310 ?_
                                                            refine r_scr C hX hbs hbG hs dL_law_1311 hh (fun x300 _ hh => ?_)
                                                            refine lv_aload_n C.1 C.2.1 dL_law_1312 rfl (lv_at hl 0 rfl) ?_
                                                            refine lv_iload C.1 C.2.1 dL_law_1313 (lv_at hl 4 rfl) ?_
                                                            refine lv_iconst (v := 2) C.1 C.2.1 dL_law_1315 (by decide) ?_
                                                            refine lv_iadd C.1 C.2.1 dL_law_1316 ?_
                                                            refine r_scr C hX hbs hbG hs dL_law_1317 hh (fun x301 _ hh => ?_)
                                                            refine lv_aload_n C.1 C.2.1 dL_law_1318 rfl (lv_at hl 0 rfl) ?_
                                                            refine lv_iload C.1 C.2.1 dL_law_1319 (lv_at hl 4 rfl) ?_
                                                            refine lv_iconst (v := 3) C.1 C.2.1 dL_law_1321 (by decide) ?_
                                                            refine lv_iadd C.1 C.2.1 dL_law_1322 ?_
                                                            refine r_scr C hX hbs hbG hs dL_law_1323 hh (fun x302 _ hh => ?_)
                                                            refine lv_aload_n C.1 C.2.1 dL_law_1324 rfl (lv_at hl 0 rfl) ?_
                                                            refine lv_iload C.1 C.2.1 dL_law_1325 (lv_at hl 4 rfl) ?_
                                                            refine lv_iconst (v := 4) C.1 C.2.1 dL_law_1327 (by decide) ?_
                                                            refine lv_iadd C.1 C.2.1 dL_law_1328 ?_
                                                            refine r_scr C hX hbs hbG hs dL_law_1329 hh (fun x303 _ hh => ?_)
                                                            refine lv_i2l (v := x303.toInt64) C.1 C.2.1 dL_law_1330 rfl ?_
                                                            refine lv_bipush (v := 32) C.1 C.2.1 dL_law_1331 (by decide) ?_
                                                            refine lv_lshl (v := (x303.toInt64 <<< ((32 : Int32).toInt64 &&& 63))) C.1 C.2.1 dL_law_1333 rfl ?_
                                                            refine lv_aload_n C.1 C.2.1 dL_law_1334 rfl (lv_at hl 0 rfl) ?_
                                                            refine lv_iload C.1 C.2.1 dL_law_1335 (lv_at hl 4 rfl) ?_
                                                            refine lv_iconst (v := 5) C.1 C.2.1 dL_law_1337 (by decide) ?_
                                                            refine lv_iadd C.1 C.2.1 dL_law_1338 ?_
                                                            refine r_scr C hX hbs hbG hs dL_law_1339 hh (fun x304 _ hh => ?_)
                                                            refine lv_i2l (v := x304.toInt64) C.1 C.2.1 dL_law_1340 rfl ?_
                                                            refine lv_ldc2 (v := 4294967295) C.1 C.2.1 C.2.2.2.1 (C.2.2.2.2.1 _ (in_tbl q_1991 rfl)) dL_law_1341 ?_
                                                            refine lv_land C.1 C.2.1 dL_law_1344 ?_
                                                            refine lv_lor C.1 C.2.1 dL_law_1345 ?_
                                                            refine lv_aload_n C.1 C.2.1 dL_law_1346 rfl (lv_at hl 0 rfl) ?_
                                                            refine lv_iload C.1 C.2.1 dL_law_1347 (lv_at hl 4 rfl) ?_
                                                            refine lv_bipush (v := 6) C.1 C.2.1 dL_law_1349 (by decide) ?_
                                                            refine lv_iadd C.1 C.2.1 dL_law_1351 ?_
                                                            refine r_scr C hX hbs hbG hs dL_law_1352 hh (fun x305 _ hh => ?_)
                                                            refine lv_if_eq (tgt := 1360) C.1 C.2.1 dL_law_1353 (by decide) (fun c312 => ?_) (fun c312 => ?_)
                                                            · rw [if_pos c312] at hh
                                                              refine lv_iconst (v := 0) C.1 C.2.1 dL_law_1360 (by decide) ?_
                                                              refine r_cV (hroom := ⟨(show _ ≤ _ by (try simp only [LR]); omega), (show _ ≤ _ by (try simp only [LR]); omega)⟩) C X hm hs mlL_131 mvL_131 hh (vv := fun r => some (.int r.1)) (hp := fun r => r.2) (fun b r hg => c_X16_edge l G r298.2 b _ _ _ _ _ r hg) rfl rfl (Nat.le_of_ble_eq_true rfl) (Nat.le_of_ble_eq_true rfl) (Nat.le_of_ble_eq_true rfl) hl.1 dL_law_1361 (fun b307 r306 H locs hgr306 hh hm hs => ?_)
                                                              refine W.eq (g2 := F0 m 1364 ls [.int r306.1, .int r298.1]) rfl ?_
                                                              refine lv_icmp_eq (tgt := 1705) C.1 C.2.1 dL_law_1364 (by decide) (fun c308 => ?_) (fun c308 => ?_)
                                                              · rw [if_pos c308] at hh
                                                                refine lv_iinc (v := (v4 + 7)) (lv' := [(4, .int (v4 + 7)), (0, .ref b), (1, va_rf v1), (2, va_rf v2), (3, va_rf v3)]) C.1 C.2.1 dL_law_1705 hl (k := 4) rfl rfl (by decide) (by simp [va_cat, vc_i, vc_l, vc_r]) (fun ls hl => ?_)
                                                                refine lv_goto (tgt := 23) C.1 C.2.1 dL_law_1708 (by decide) ?_
                                                                refine W.widen (k := ((513 - n) * 110 + 249)) (n := ((513 - n) * 1149 + 11693)) (by omega) (by omega) ?_
                                                                exact ih (by omega) _ _ _ _ _ _ _ _  hm hs (lv_sub hl [1, 2, 3, 4, 0] rfl) hh
                                                              · rw [if_neg c308] at hh
                                                                refine lv_iconst (v := 0) C.1 C.2.1 dL_law_1367 (by decide) ?_
                                                                cases hh
                                                            · rw [if_neg c312] at hh
                                                              refine lv_iconst (v := 1) C.1 C.2.1 dL_law_1356 (by decide) ?_
                                                              refine lv_goto (tgt := 1361) C.1 C.2.1 dL_law_1357 (by decide) ?_
                                                              refine r_cV (hroom := ⟨(show _ ≤ _ by (try simp only [LR]); omega), (show _ ≤ _ by (try simp only [LR]); omega)⟩) C X hm hs mlL_131 mvL_131 hh (vv := fun r => some (.int r.1)) (hp := fun r => r.2) (fun b r hg => c_X16_edge l G r298.2 b _ _ _ _ _ r hg) rfl rfl (Nat.le_of_ble_eq_true rfl) (Nat.le_of_ble_eq_true rfl) (Nat.le_of_ble_eq_true rfl) hl.1 dL_law_1361 (fun b310 r309 H locs hgr309 hh hm hs => ?_)
                                                              refine W.eq (g2 := F0 m 1364 ls [.int r309.1, .int r298.1]) rfl ?_
                                                              refine lv_icmp_eq (tgt := 1705) C.1 C.2.1 dL_law_1364 (by decide) (fun c311 => ?_) (fun c311 => ?_)
                                                              · rw [if_pos c311] at hh
                                                                refine lv_iinc (v := (v4 + 7)) (lv' := [(4, .int (v4 + 7)), (0, .ref b), (1, va_rf v1), (2, va_rf v2), (3, va_rf v3)]) C.1 C.2.1 dL_law_1705 hl (k := 4) rfl rfl (by decide) (by simp [va_cat, vc_i, vc_l, vc_r]) (fun ls hl => ?_)
                                                                refine lv_goto (tgt := 23) C.1 C.2.1 dL_law_1708 (by decide) ?_
                                                                refine W.widen (k := ((513 - n) * 110 + 249)) (n := ((513 - n) * 1149 + 11693)) (by omega) (by omega) ?_
                                                                exact ih (by omega) _ _ _ _ _ _ _ _  hm hs (lv_sub hl [1, 2, 3, 4, 0] rfl) hh
                                                              · rw [if_neg c311] at hh
                                                                refine lv_iconst (v := 0) C.1 C.2.1 dL_law_1367 (by decide) ?_
                                                                cases hh
                                                        · rw [if_neg c2_24] at hh
                                                          by_cases c2_25 : (x1 &&& 63) = 25
                                                          · rw [if_pos c2_25] at hh
                                                            refine r_tsw (tgt := 1369) C dL_law_40 c2_25 (by decide) (by decide) rfl (by decide) ?_
                                                            refine r_aload_n C.1 C.2.1 dL_law_1369 rfl (lv_at hl 1 rfl) ?_
                                                            refine lv_aload_n C.1 C.2.1 dL_law_1370 rfl (lv_at hl 0 rfl) ?_
                                                            refine lv_iload C.1 C.2.1 dL_law_1371 (lv_at hl 4 rfl) ?_
                                                            refine lv_iconst (v := 1) C.1 C.2.1 dL_law_1373 (by decide) ?_
                                                            refine lv_iadd C.1 C.2.1 dL_law_1374 ?_
                                                            refine r_scr C hX hbs hbG hs dL_law_1375 hh (fun x314 _ hh => ?_)
                                                            refine lv_aload_n C.1 C.2.1 dL_law_1376 rfl (lv_at hl 0 rfl) ?_
                                                            refine lv_iload C.1 C.2.1 dL_law_1377 (lv_at hl 4 rfl) ?_
                                                            refine lv_iconst (v := 2) C.1 C.2.1 dL_law_1379 (by decide) ?_
                                                            refine lv_iadd C.1 C.2.1 dL_law_1380 ?_
                                                            refine r_scr C hX hbs hbG hs dL_law_1381 hh (fun x315 _ hh => ?_)
                                                            refine lv_i2l (v := x315.toInt64) C.1 C.2.1 dL_law_1382 rfl ?_
                                                            refine lv_bipush (v := 32) C.1 C.2.1 dL_law_1383 (by decide) ?_
                                                            refine lv_lshl (v := (x315.toInt64 <<< ((32 : Int32).toInt64 &&& 63))) C.1 C.2.1 dL_law_1385 rfl ?_
                                                            refine lv_aload_n C.1 C.2.1 dL_law_1386 rfl (lv_at hl 0 rfl) ?_
                                                            refine lv_iload C.1 C.2.1 dL_law_1387 (lv_at hl 4 rfl) ?_
                                                            refine lv_iconst (v := 3) C.1 C.2.1 dL_law_1389 (by decide) ?_
                                                            refine lv_iadd C.1 C.2.1 dL_law_1390 ?_
                                                            refine r_scr C hX hbs hbG hs dL_law_1391 hh (fun x316 _ hh => ?_)
                                                            refine lv_i2l (v := x316.toInt64) C.1 C.2.1 dL_law_1392 rfl ?_
                                                            refine lv_ldc2 (v := 4294967295) C.1 C.2.1 C.2.2.2.1 (C.2.2.2.2.1 _ (in_tbl q_1991 rfl)) dL_law_1393 ?_
                                                            refine lv_land C.1 C.2.1 dL_law_1396 ?_
                                                            refine lv_lor C.1 C.2.1 dL_law_1397 ?_
                                                            refine r_cV (hroom := ⟨(show _ ≤ _ by (try simp only [LR]); omega), (show _ ≤ _ by (try simp only [LR]); omega)⟩) C X hm hs mlL_132 mvL_132 hh (vv := fun r => some (.int r.1)) (hp := fun r => r.2) (fun b r hg => c_X11_wide l G h b _ _ r hg) rfl rfl (Nat.le_of_ble_eq_true rfl) (Nat.le_of_ble_eq_true rfl) (Nat.le_of_ble_eq_true rfl) hl.1 dL_law_1398 (fun b318 r317 H locs hgr317 hh hm hs => ?_)
                                                            refine W.eq (g2 := F0 m 1401 ls [.int r317.1]) rfl ?_
                                                            refine r_aload_n C.1 C.2.1 dL_law_1401 rfl (lv_at hl 2 rfl) ?_
                                                            refine lv_aload_n C.1 C.2.1 dL_law_1402 rfl (lv_at hl 0 rfl) ?_
                                                            refine lv_iload C.1 C.2.1 dL_law_1403 (lv_at hl 4 rfl) ?_
                                                            refine lv_iconst (v := 1) C.1 C.2.1 dL_law_1405 (by decide) ?_
                                                            refine lv_iadd C.1 C.2.1 dL_law_1406 ?_
                                                            refine r_scr C hX hbs hbG hs dL_law_1407 hh (fun x319 _ hh => ?_)
                                                            refine lv_aload_n C.1 C.2.1 dL_law_1408 rfl (lv_at hl 0 rfl) ?_
                                                            refine lv_iload C.1 C.2.1 dL_law_1409 (lv_at hl 4 rfl) ?_
                                                            refine lv_iconst (v := 2) C.1 C.2.1 dL_law_1411 (by decide) ?_
                                                            refine lv_iadd C.1 C.2.1 dL_law_1412 ?_
                                                            refine r_scr C hX hbs hbG hs dL_law_1413 hh (fun x320 _ hh => ?_)
                                                            refine lv_i2l (v := x320.toInt64) C.1 C.2.1 dL_law_1414 rfl ?_
                                                            refine lv_bipush (v := 32) C.1 C.2.1 dL_law_1415 (by decide) ?_
                                                            refine lv_lshl (v := (x320.toInt64 <<< ((32 : Int32).toInt64 &&& 63))) C.1 C.2.1 dL_law_1417 rfl ?_
                                                            refine lv_aload_n C.1 C.2.1 dL_law_1418 rfl (lv_at hl 0 rfl) ?_
                                                            refine lv_iload C.1 C.2.1 dL_law_1419 (lv_at hl 4 rfl) ?_
                                                            refine lv_iconst (v := 3) C.1 C.2.1 dL_law_1421 (by decide) ?_
                                                            refine lv_iadd C.1 C.2.1 dL_law_1422 ?_
                                                            refine r_scr C hX hbs hbG hs dL_law_1423 hh (fun x321 _ hh => ?_)
                                                            refine lv_i2l (v := x321.toInt64) C.1 C.2.1 dL_law_1424 rfl ?_
                                                            refine lv_ldc2 (v := 4294967295) C.1 C.2.1 C.2.2.2.1 (C.2.2.2.2.1 _ (in_tbl q_1991 rfl)) dL_law_1425 ?_
                                                            refine lv_land C.1 C.2.1 dL_law_1428 ?_
                                                            refine lv_lor C.1 C.2.1 dL_law_1429 ?_
                                                            refine r_cV (hroom := ⟨(show _ ≤ _ by (try simp only [LR]); omega), (show _ ≤ _ by (try simp only [LR]); omega)⟩) C X hm hs mlL_136 mvL_136 hh (vv := fun r => some (.int r.1)) (hp := fun r => r.2) (fun b r hg => c_X16_wide l G r317.2 b _ _ r hg) rfl rfl (Nat.le_of_ble_eq_true rfl) (Nat.le_of_ble_eq_true rfl) (Nat.le_of_ble_eq_true rfl) hl.1 dL_law_1430 (fun b323 r322 H locs hgr322 hh hm hs => ?_)
                                                            refine W.eq (g2 := F0 m 1433 ls [.int r322.1, .int r317.1]) rfl ?_
                                                            refine lv_icmp_eq (tgt := 1705) C.1 C.2.1 dL_law_1433 (by decide) (fun c324 => ?_) (fun c324 => ?_)
                                                            · rw [if_pos c324] at hh
                                                              refine lv_iinc (v := (v4 + 7)) (lv' := [(4, .int (v4 + 7)), (0, .ref b), (1, va_rf v1), (2, va_rf v2), (3, va_rf v3)]) C.1 C.2.1 dL_law_1705 hl (k := 4) rfl rfl (by decide) (by simp [va_cat, vc_i, vc_l, vc_r]) (fun ls hl => ?_)
                                                              refine lv_goto (tgt := 23) C.1 C.2.1 dL_law_1708 (by decide) ?_
                                                              refine W.widen (k := ((513 - n) * 110 + 249)) (n := ((513 - n) * 1149 + 11693)) (by omega) (by omega) ?_
                                                              exact ih (by omega) _ _ _ _ _ _ _ _  hm hs (lv_sub hl [1, 2, 3, 4, 0] rfl) hh
                                                            · rw [if_neg c324] at hh
                                                              refine lv_iconst (v := 0) C.1 C.2.1 dL_law_1436 (by decide) ?_
                                                              cases hh
                                                          · rw [if_neg c2_25] at hh
                                                            by_cases c2_26 : (x1 &&& 63) = 26
                                                            · rw [if_pos c2_26] at hh
                                                              refine r_tsw (tgt := 1438) C dL_law_40 c2_26 (by decide) (by decide) rfl (by decide) ?_
                                                              refine r_aload_n C.1 C.2.1 dL_law_1438 rfl (lv_at hl 1 rfl) ?_
                                                              refine lv_aload_n C.1 C.2.1 dL_law_1439 rfl (lv_at hl 0 rfl) ?_
                                                              refine lv_iload C.1 C.2.1 dL_law_1440 (lv_at hl 4 rfl) ?_
                                                              refine lv_iconst (v := 1) C.1 C.2.1 dL_law_1442 (by decide) ?_
                                                              refine lv_iadd C.1 C.2.1 dL_law_1443 ?_
                                                              refine r_scr C hX hbs hbG hs dL_law_1444 hh (fun x325 _ hh => ?_)
                                                              refine r_cV (hroom := ⟨(show _ ≤ _ by (try simp only [LR]); omega), (show _ ≤ _ by (try simp only [LR]); omega)⟩) C X hm hs mlL_137 mvL_137 hh (vv := fun r => some (.int r.1)) (hp := fun r => r.2) (fun b r hg => c_X11_least l G h b _ r hg) rfl rfl (Nat.le_of_ble_eq_true rfl) (Nat.le_of_ble_eq_true rfl) (Nat.le_of_ble_eq_true rfl) hl.1 dL_law_1445 (fun b327 r326 H locs hgr326 hh hm hs => ?_)
                                                              refine W.eq (g2 := F0 m 1448 ls [.int r326.1]) rfl ?_
                                                              refine r_aload_n C.1 C.2.1 dL_law_1448 rfl (lv_at hl 2 rfl) ?_
                                                              refine lv_aload_n C.1 C.2.1 dL_law_1449 rfl (lv_at hl 0 rfl) ?_
                                                              refine lv_iload C.1 C.2.1 dL_law_1450 (lv_at hl 4 rfl) ?_
                                                              refine lv_iconst (v := 1) C.1 C.2.1 dL_law_1452 (by decide) ?_
                                                              refine lv_iadd C.1 C.2.1 dL_law_1453 ?_
                                                              refine r_scr C hX hbs hbG hs dL_law_1454 hh (fun x328 _ hh => ?_)
                                                              refine r_cV (hroom := ⟨(show _ ≤ _ by (try simp only [LR]); omega), (show _ ≤ _ by (try simp only [LR]); omega)⟩) C X hm hs mlL_140 mvL_140 hh (vv := fun r => some (.int r.1)) (hp := fun r => r.2) (fun b r hg => c_X16_least l G r326.2 b _ r hg) rfl rfl (Nat.le_of_ble_eq_true rfl) (Nat.le_of_ble_eq_true rfl) (Nat.le_of_ble_eq_true rfl) hl.1 dL_law_1455 (fun b330 r329 H locs hgr329 hh hm hs => ?_)
                                                              refine W.eq (g2 := F0 m 1458 ls [.int r329.1, .int r326.1]) rfl ?_
                                                              refine lv_icmp_eq (tgt := 1705) C.1 C.2.1 dL_law_1458 (by decide) (fun c331 => ?_) (fun c331 => ?_)
                                                              · rw [if_pos c331] at hh
                                                                refine lv_iinc (v := (v4 + 7)) (lv' := [(4, .int (v4 + 7)), (0, .ref b), (1, va_rf v1), (2, va_rf v2), (3, va_rf v3)]) C.1 C.2.1 dL_law_1705 hl (k := 4) rfl rfl (by decide) (by simp [va_cat, vc_i, vc_l, vc_r]) (fun ls hl => ?_)
                                                                refine lv_goto (tgt := 23) C.1 C.2.1 dL_law_1708 (by decide) ?_
                                                                refine W.widen (k := ((513 - n) * 110 + 249)) (n := ((513 - n) * 1149 + 11693)) (by omega) (by omega) ?_
                                                                exact ih (by omega) _ _ _ _ _ _ _ _  hm hs (lv_sub hl [1, 2, 3, 4, 0] rfl) hh
                                                              · rw [if_neg c331] at hh
                                                                refine lv_iconst (v := 0) C.1 C.2.1 dL_law_1461 (by decide) ?_
                                                                cases hh
                                                            · rw [if_neg c2_26] at hh
                                                              by_cases c2_27 : (x1 &&& 63) = 27
                                                              · rw [if_pos c2_27] at hh
                                                                refine r_tsw (tgt := 1463) C dL_law_40 c2_27 (by decide) (by decide) rfl (by decide) ?_
                                                                refine r_aload_n C.1 C.2.1 dL_law_1463 rfl (lv_at hl 1 rfl) ?_
                                                                refine lv_aload_n C.1 C.2.1 dL_law_1464 rfl (lv_at hl 0 rfl) ?_
                                                                refine lv_iload C.1 C.2.1 dL_law_1465 (lv_at hl 4 rfl) ?_
                                                                refine lv_iconst (v := 1) C.1 C.2.1 dL_law_1467 (by decide) ?_
                                                                refine lv_iadd C.1 C.2.1 dL_law_1468 ?_
                                                                refine r_scr C hX hbs hbG hs dL_law_1469 hh (fun x332 _ hh => ?_)
                                                                refine lv_aload_n C.1 C.2.1 dL_law_1470 rfl (lv_at hl 0 rfl) ?_
                                                                refine lv_iload C.1 C.2.1 dL_law_1471 (lv_at hl 4 rfl) ?_
                                                                refine lv_iconst (v := 2) C.1 C.2.1 dL_law_1473 (by decide) ?_
                                                                refine lv_iadd C.1 C.2.1 dL_law_1474 ?_
                                                                refine r_scr C hX hbs hbG hs dL_law_1475 hh (fun x333 _ hh => ?_)
                                                                refine r_cV (hroom := ⟨(show _ ≤ _ by (try simp only [LR]); omega), (show _ ≤ _ by (try simp only [LR]); omega)⟩) C X hm hs mlL_141 mvL_141 hh (vv := fun r => some (.int r.1)) (hp := fun r => r.2) (fun b r hg => c_X11_differing l G h b _ _ r hg) rfl rfl (Nat.le_of_ble_eq_true rfl) (Nat.le_of_ble_eq_true rfl) (Nat.le_of_ble_eq_true rfl) hl.1 dL_law_1476 (fun b335 r334 H locs hgr334 hh hm hs => ?_)
                                                                refine W.eq (g2 := F0 m 1479 ls [.int r334.1]) rfl ?_
                                                                refine r_aload_n C.1 C.2.1 dL_law_1479 rfl (lv_at hl 2 rfl) ?_
                                                                refine lv_aload_n C.1 C.2.1 dL_law_1480 rfl (lv_at hl 0 rfl) ?_
                                                                refine lv_iload C.1 C.2.1 dL_law_1481 (lv_at hl 4 rfl) ?_
                                                                refine lv_iconst (v := 1) C.1 C.2.1 dL_law_1483 (by decide) ?_
                                                                refine lv_iadd C.1 C.2.1 dL_law_1484 ?_
                                                                refine r_scr C hX hbs hbG hs dL_law_1485 hh (fun x336 _ hh => ?_)
                                                                refine lv_aload_n C.1 C.2.1 dL_law_1486 rfl (lv_at hl 0 rfl) ?_
                                                                refine lv_iload C.1 C.2.1 dL_law_1487 (lv_at hl 4 rfl) ?_
                                                                refine lv_iconst (v := 2) C.1 C.2.1 dL_law_1489 (by decide) ?_
                                                                refine lv_iadd C.1 C.2.1 dL_law_1490 ?_
                                                                refine r_scr C hX hbs hbG hs dL_law_1491 hh (fun x337 _ hh => ?_)
                                                                refine r_cV (hroom := ⟨(show _ ≤ _ by (try simp only [LR]); omega), (show _ ≤ _ by (try simp only [LR]); omega)⟩) C X hm hs mlL_144 mvL_144 hh (vv := fun r => some (.int r.1)) (hp := fun r => r.2) (fun b r hg => c_X16_differing l G r334.2 b _ _ r hg) rfl rfl (Nat.le_of_ble_eq_true rfl) (Nat.le_of_ble_eq_true rfl) (Nat.le_of_ble_eq_true rfl) hl.1 dL_law_1492 (fun b339 r338 H locs hgr338 hh hm hs => ?_)
                                                                refine W.eq (g2 := F0 m 1495 ls [.int r338.1, .int r334.1]) rfl ?_
                                                                refine lv_icmp_eq (tgt := 1705) C.1 C.2.1 dL_law_1495 (by decide) (fun c340 => ?_) (fun c340 => ?_)
                                                                · rw [if_pos c340] at hh
                                                                  refine lv_iinc (v := (v4 + 7)) (lv' := [(4, .int (v4 + 7)), (0, .ref b), (1, va_rf v1), (2, va_rf v2), (3, va_rf v3)]) C.1 C.2.1 dL_law_1705 hl (k := 4) rfl rfl (by decide) (by simp [va_cat, vc_i, vc_l, vc_r]) (fun ls hl => ?_)
                                                                  refine lv_goto (tgt := 23) C.1 C.2.1 dL_law_1708 (by decide) ?_
                                                                  refine W.widen (k := ((513 - n) * 110 + 249)) (n := ((513 - n) * 1149 + 11693)) (by omega) (by omega) ?_
                                                                  exact ih (by omega) _ _ _ _ _ _ _ _  hm hs (lv_sub hl [1, 2, 3, 4, 0] rfl) hh
                                                                · rw [if_neg c340] at hh
                                                                  refine lv_iconst (v := 0) C.1 C.2.1 dL_law_1498 (by decide) ?_
                                                                  cases hh
                                                              · rw [if_neg c2_27] at hh
                                                                by_cases c2_28 : (x1 &&& 63) = 28
                                                                · rw [if_pos c2_28] at hh
                                                                  refine r_tsw (tgt := 1500) C dL_law_40 c2_28 (by decide) (by decide) rfl (by decide) ?_
                                                                  refine r_aload_n C.1 C.2.1 dL_law_1500 rfl (lv_at hl 1 rfl) ?_
                                                                  refine lv_aload_n C.1 C.2.1 dL_law_1501 rfl (lv_at hl 0 rfl) ?_
                                                                  refine lv_iload C.1 C.2.1 dL_law_1502 (lv_at hl 4 rfl) ?_
                                                                  refine lv_iconst (v := 1) C.1 C.2.1 dL_law_1504 (by decide) ?_
                                                                  refine lv_iadd C.1 C.2.1 dL_law_1505 ?_
                                                                  refine r_scr C hX hbs hbG hs dL_law_1506 hh (fun x341 _ hh => ?_)
                                                                  refine r_cV (hroom := ⟨(show _ ≤ _ by (try simp only [LR]); omega), (show _ ≤ _ by (try simp only [LR]); omega)⟩) C X hm hs mlL_145 mvL_145 hh (vv := fun r => some (.int r.1)) (hp := fun r => r.2) (fun b r hg => c_X11_lot l G h b _ r hg) rfl rfl (Nat.le_of_ble_eq_true rfl) (Nat.le_of_ble_eq_true rfl) (Nat.le_of_ble_eq_true rfl) hl.1 dL_law_1507 (fun b343 r342 H locs hgr342 hh hm hs => ?_)
                                                                  refine W.eq (g2 := F0 m 1510 ls [.int r342.1]) rfl ?_
                                                                  refine r_aload_n C.1 C.2.1 dL_law_1510 rfl (lv_at hl 2 rfl) ?_
                                                                  refine lv_aload_n C.1 C.2.1 dL_law_1511 rfl (lv_at hl 0 rfl) ?_
                                                                  refine lv_iload C.1 C.2.1 dL_law_1512 (lv_at hl 4 rfl) ?_
                                                                  refine lv_iconst (v := 1) C.1 C.2.1 dL_law_1514 (by decide) ?_
                                                                  refine lv_iadd C.1 C.2.1 dL_law_1515 ?_
                                                                  refine r_scr C hX hbs hbG hs dL_law_1516 hh (fun x344 _ hh => ?_)
                                                                  refine r_cV (hroom := ⟨(show _ ≤ _ by (try simp only [LR]); omega), (show _ ≤ _ by (try simp only [LR]); omega)⟩) C X hm hs mlL_148 mvL_148 hh (vv := fun r => some (.int r.1)) (hp := fun r => r.2) (fun b r hg => c_X16_lot l G r342.2 b _ r hg) rfl rfl (Nat.le_of_ble_eq_true rfl) (Nat.le_of_ble_eq_true rfl) (Nat.le_of_ble_eq_true rfl) hl.1 dL_law_1517 (fun b346 r345 H locs hgr345 hh hm hs => ?_)
                                                                  refine W.eq (g2 := F0 m 1520 ls [.int r345.1, .int r342.1]) rfl ?_
                                                                  refine lv_icmp_eq (tgt := 1705) C.1 C.2.1 dL_law_1520 (by decide) (fun c347 => ?_) (fun c347 => ?_)
                                                                  · rw [if_pos c347] at hh
                                                                    refine lv_iinc (v := (v4 + 7)) (lv' := [(4, .int (v4 + 7)), (0, .ref b), (1, va_rf v1), (2, va_rf v2), (3, va_rf v3)]) C.1 C.2.1 dL_law_1705 hl (k := 4) rfl rfl (by decide) (by simp [va_cat, vc_i, vc_l, vc_r]) (fun ls hl => ?_)
                                                                    refine lv_goto (tgt := 23) C.1 C.2.1 dL_law_1708 (by decide) ?_
                                                                    refine W.widen (k := ((513 - n) * 110 + 249)) (n := ((513 - n) * 1149 + 11693)) (by omega) (by omega) ?_
                                                                    exact ih (by omega) _ _ _ _ _ _ _ _  hm hs (lv_sub hl [1, 2, 3, 4, 0] rfl) hh
                                                                  · rw [if_neg c347] at hh
                                                                    refine lv_iconst (v := 0) C.1 C.2.1 dL_law_1523 (by decide) ?_
                                                                    cases hh
                                                                · rw [if_neg c2_28] at hh
                                                                  by_cases c2_29 : (x1 &&& 63) = 29
                                                                  · rw [if_pos c2_29] at hh
                                                                    refine r_tsw (tgt := 1525) C dL_law_40 c2_29 (by decide) (by decide) rfl (by decide) ?_
                                                                    refine r_aload_n C.1 C.2.1 dL_law_1525 rfl (lv_at hl 1 rfl) ?_
                                                                    refine lv_aload_n C.1 C.2.1 dL_law_1526 rfl (lv_at hl 0 rfl) ?_
                                                                    refine lv_iload C.1 C.2.1 dL_law_1527 (lv_at hl 4 rfl) ?_
                                                                    refine lv_iconst (v := 1) C.1 C.2.1 dL_law_1529 (by decide) ?_
                                                                    refine lv_iadd C.1 C.2.1 dL_law_1530 ?_
                                                                    refine r_scr C hX hbs hbG hs dL_law_1531 hh (fun x348 _ hh => ?_)
                                                                    refine lv_aload_n C.1 C.2.1 dL_law_1532 rfl (lv_at hl 0 rfl) ?_
                                                                    refine lv_iload C.1 C.2.1 dL_law_1533 (lv_at hl 4 rfl) ?_
                                                                    refine lv_iconst (v := 2) C.1 C.2.1 dL_law_1535 (by decide) ?_
                                                                    refine lv_iadd C.1 C.2.1 dL_law_1536 ?_
                                                                    refine r_scr C hX hbs hbG hs dL_law_1537 hh (fun x349 _ hh => ?_)
                                                                    refine lv_aload_n C.1 C.2.1 dL_law_1538 rfl (lv_at hl 0 rfl) ?_
                                                                    refine lv_iload C.1 C.2.1 dL_law_1539 (lv_at hl 4 rfl) ?_
                                                                    refine lv_iconst (v := 3) C.1 C.2.1 dL_law_1541 (by decide) ?_
                                                                    refine lv_iadd C.1 C.2.1 dL_law_1542 ?_
                                                                    refine r_scr C hX hbs hbG hs dL_law_1543 hh (fun x350 _ hh => ?_)
                                                                    refine r_cV (hroom := ⟨(show _ ≤ _ by (try simp only [LR]); omega), (show _ ≤ _ by (try simp only [LR]); omega)⟩) C X hm hs mlL_149 mvL_149 hh (vv := fun r => some (.long r.1)) (hp := fun r => r.2) (fun b r hg => c_X11_noise l G h b _ _ _ r hg) rfl rfl (Nat.le_of_ble_eq_true rfl) (Nat.le_of_ble_eq_true rfl) (Nat.le_of_ble_eq_true rfl) hl.1 dL_law_1544 (fun b352 r351 H locs hgr351 hh hm hs => ?_)
                                                                    refine W.eq (g2 := F0 m 1547 ls [.long r351.1]) rfl ?_
                                                                    refine r_aload_n C.1 C.2.1 dL_law_1547 rfl (lv_at hl 2 rfl) ?_
                                                                    refine lv_aload_n C.1 C.2.1 dL_law_1548 rfl (lv_at hl 0 rfl) ?_
                                                                    refine lv_iload C.1 C.2.1 dL_law_1549 (lv_at hl 4 rfl) ?_
                                                                    refine lv_iconst (v := 1) C.1 C.2.1 dL_law_1551 (by decide) ?_
                                                                    refine lv_iadd C.1 C.2.1 dL_law_1552 ?_
                                                                    refine r_scr C hX hbs hbG hs dL_law_1553 hh (fun x353 _ hh => ?_)
                                                                    refine lv_aload_n C.1 C.2.1 dL_law_1554 rfl (lv_at hl 0 rfl) ?_
                                                                    refine lv_iload C.1 C.2.1 dL_law_1555 (lv_at hl 4 rfl) ?_
                                                                    refine lv_iconst (v := 2) C.1 C.2.1 dL_law_1557 (by decide) ?_
                                                                    refine lv_iadd C.1 C.2.1 dL_law_1558 ?_
                                                                    refine r_scr C hX hbs hbG hs dL_law_1559 hh (fun x354 _ hh => ?_)
                                                                    refine lv_aload_n C.1 C.2.1 dL_law_1560 rfl (lv_at hl 0 rfl) ?_
                                                                    refine lv_iload C.1 C.2.1 dL_law_1561 (lv_at hl 4 rfl) ?_
                                                                    refine lv_iconst (v := 3) C.1 C.2.1 dL_law_1563 (by decide) ?_
                                                                    refine lv_iadd C.1 C.2.1 dL_law_1564 ?_
                                                                    refine r_scr C hX hbs hbG hs dL_law_1565 hh (fun x355 _ hh => ?_)
                                                                    refine r_cV (hroom := ⟨(show _ ≤ _ by (try simp only [LR]); omega), (show _ ≤ _ by (try simp only [LR]); omega)⟩) C X hm hs mlL_153 mvL_153 hh (vv := fun r => some (.long r.1)) (hp := fun r => r.2) (fun b r hg => c_X16_noise l G r351.2 b _ _ _ r hg) rfl rfl (Nat.le_of_ble_eq_true rfl) (Nat.le_of_ble_eq_true rfl) (Nat.le_of_ble_eq_true rfl) hl.1 dL_law_1566 (fun b357 r356 H locs hgr356 hh hm hs => ?_)
                                                                    refine W.eq (g2 := F0 m 1569 ls [.long r356.1, .long r351.1]) rfl ?_
                                                                    refine W.lcmp C.1 C.2.1 dL_law_1569 ?_
                                                                    refine lv_if_eq (tgt := 1705) C.1 C.2.1 dL_law_1570 (by decide) (fun c358 => ?_) (fun c358 => ?_)
                                                                    · rw [if_pos c358] at hh
                                                                      refine lv_iinc (v := (v4 + 7)) (lv' := [(4, .int (v4 + 7)), (0, .ref b), (1, va_rf v1), (2, va_rf v2), (3, va_rf v3)]) C.1 C.2.1 dL_law_1705 hl (k := 4) rfl rfl (by decide) (by simp [va_cat, vc_i, vc_l, vc_r]) (fun ls hl => ?_)
                                                                      refine lv_goto (tgt := 23) C.1 C.2.1 dL_law_1708 (by decide) ?_
                                                                      refine W.widen (k := ((513 - n) * 110 + 249)) (n := ((513 - n) * 1149 + 11693)) (by omega) (by omega) ?_
                                                                      exact ih (by omega) _ _ _ _ _ _ _ _  hm hs (lv_sub hl [1, 2, 3, 4, 0] rfl) hh
                                                                    · rw [if_neg c358] at hh
                                                                      refine lv_iconst (v := 0) C.1 C.2.1 dL_law_1573 (by decide) ?_
                                                                      cases hh
                                                                  · rw [if_neg c2_29] at hh
                                                                    by_cases c2_30 : (x1 &&& 63) = 30
                                                                    · rw [if_pos c2_30] at hh
                                                                      refine r_tsw (tgt := 1575) C dL_law_40 c2_30 (by decide) (by decide) rfl (by decide) ?_
                                                                      refine r_aload_n C.1 C.2.1 dL_law_1575 rfl (lv_at hl 1 rfl) ?_
                                                                      refine lv_aload_n C.1 C.2.1 dL_law_1576 rfl (lv_at hl 0 rfl) ?_
                                                                      refine lv_iload C.1 C.2.1 dL_law_1577 (lv_at hl 4 rfl) ?_
                                                                      refine lv_iconst (v := 1) C.1 C.2.1 dL_law_1579 (by decide) ?_
                                                                      refine lv_iadd C.1 C.2.1 dL_law_1580 ?_
                                                                      refine r_scr C hX hbs hbG hs dL_law_1581 hh (fun x359 _ hh => ?_)
                                                                      refine lv_aload_n C.1 C.2.1 dL_law_1582 rfl (lv_at hl 0 rfl) ?_
                                                                      refine lv_iload C.1 C.2.1 dL_law_1583 (lv_at hl 4 rfl) ?_
                                                                      refine lv_iconst (v := 2) C.1 C.2.1 dL_law_1585 (by decide) ?_
                                                                      refine lv_iadd C.1 C.2.1 dL_law_1586 ?_
                                                                      refine r_scr C hX hbs hbG hs dL_law_1587 hh (fun x360 _ hh => ?_)
                                                                      refine lv_aload_n C.1 C.2.1 dL_law_1588 rfl (lv_at hl 0 rfl) ?_
                                                                      refine lv_iload C.1 C.2.1 dL_law_1589 (lv_at hl 4 rfl) ?_
                                                                      refine lv_iconst (v := 3) C.1 C.2.1 dL_law_1591 (by decide) ?_
                                                                      refine lv_iadd C.1 C.2.1 dL_law_1592 ?_
                                                                      refine r_scr C hX hbs hbG hs dL_law_1593 hh (fun x361 _ hh => ?_)
                                                                      refine lv_aload_n C.1 C.2.1 dL_law_1594 rfl (lv_at hl 0 rfl) ?_
                                                                      refine lv_iload C.1 C.2.1 dL_law_1595 (lv_at hl 4 rfl) ?_
                                                                      refine lv_iconst (v := 4) C.1 C.2.1 dL_law_1597 (by decide) ?_
                                                                      refine lv_iadd C.1 C.2.1 dL_law_1598 ?_
                                                                      refine r_scr C hX hbs hbG hs dL_law_1599 hh (fun x362 _ hh => ?_)
                                                                      refine r_aload_n C.1 C.2.1 dL_law_1600 rfl (lv_at hl 3 rfl) ?_
                                                                      refine r_mS C X hm hs mwL_154 msL_154 hh (vv := fun r => some (.int r.1)) (hp := fun r => r.2) (fun r hg => c_L_led l hst G h _ _ _ _ _ _ r hg) rfl rfl (Nat.le_of_ble_eq_true rfl) (Nat.le_of_ble_eq_true rfl) (Nat.le_of_ble_eq_true rfl) ⟨(show _ ≤ _ by (try simp only [LR]); omega), (show _ ≤ _ by (try simp only [LR]); omega)⟩ hl.1 dL_law_1601 (fun r363 H locs hgr363 hh hm hs => ?_)
                                                                      refine W.eq (g2 := F0 m 1604 ls [.int r363.1]) rfl ?_
                                                                      refine lv_istore (i := 5) (lv' := [(5, .int r363.1), (0, .ref b), (1, va_rf v1), (2, va_rf v2), (3, va_rf v3), (4, .int v4)]) C.1 C.2.1 dL_law_1604 hl (by decide) rfl (fun ls hl => ?_)
                                                                      refine r_aload_n C.1 C.2.1 dL_law_1606 rfl (lv_at hl 3 rfl) ?_
                                                                      refine lv_aload_n C.1 C.2.1 dL_law_1607 rfl (lv_at hl 1 rfl) ?_
                                                                      refine lv_iload C.1 C.2.1 dL_law_1608 (lv_at hl 5 rfl) ?_
                                                                      refine lv_iconst (v := 1) C.1 C.2.1 dL_law_1610 (by decide) ?_
                                                                      refine lv_iadd C.1 C.2.1 dL_law_1611 ?_
                                                                      refine r_scr C hX hbs hbG hs dL_law_1612 hh (fun x364 _ hh => ?_)
                                                                      refine lv_aload_n C.1 C.2.1 dL_law_1613 rfl (lv_at hl 1 rfl) ?_
                                                                      refine lv_iload C.1 C.2.1 dL_law_1614 (lv_at hl 5 rfl) ?_
                                                                      refine lv_iconst (v := 2) C.1 C.2.1 dL_law_1616 (by decide) ?_
                                                                      refine lv_iadd C.1 C.2.1 dL_law_1617 ?_
                                                                      refine r_scr C hX hbs hbG hs dL_law_1618 hh (fun x365 _ hh => ?_)
                                                                      refine lv_aload_n C.1 C.2.1 dL_law_1619 rfl (lv_at hl 1 rfl) ?_
                                                                      refine lv_iload C.1 C.2.1 dL_law_1620 (lv_at hl 5 rfl) ?_
                                                                      refine lv_iconst (v := 3) C.1 C.2.1 dL_law_1622 (by decide) ?_
                                                                      refine lv_iadd C.1 C.2.1 dL_law_1623 ?_
                                                                      refine r_scr C hX hbs hbG hs dL_law_1624 hh (fun x366 _ hh => ?_)
                                                                      refine lv_aload_n C.1 C.2.1 dL_law_1625 rfl (lv_at hl 1 rfl) ?_
                                                                      refine lv_iload C.1 C.2.1 dL_law_1626 (lv_at hl 5 rfl) ?_
                                                                      refine lv_iconst (v := 4) C.1 C.2.1 dL_law_1628 (by decide) ?_
                                                                      refine lv_iadd C.1 C.2.1 dL_law_1629 ?_
                                                                      refine r_scr C hX hbs hbG hs dL_law_1630 hh (fun x367 _ hh => ?_)
                                                                      refine r_cV (hroom := ⟨(show _ ≤ _ by (try simp only [LR]); omega), (show _ ≤ _ by (try simp only [LR]); omega)⟩) C X hm hs mlL_159 mvL_159 hh (vv := fun r => some (.int r.1)) (hp := fun r => r.2) (fun b r hg => c_X16_led l G r363.2 b _ _ _ _ r hg) rfl rfl (Nat.le_of_ble_eq_true rfl) (Nat.le_of_ble_eq_true rfl) (Nat.le_of_ble_eq_true rfl) hl.1 dL_law_1631 (fun b369 r368 H locs hgr368 hh hm hs => ?_)
                                                                      refine W.eq (g2 := F0 m 1634 ls [.int r368.1]) rfl ?_
                                                                      refine lv_istore (i := 6) (lv' := [(6, .int r368.1), (5, .int r363.1), (0, .ref b), (1, va_rf v1), (2, va_rf v2), (3, va_rf v3), (4, .int v4)]) C.1 C.2.1 dL_law_1634 hl (by decide) rfl (fun ls hl => ?_)
                                                                      refine r_aload_n C.1 C.2.1 dL_law_1636 rfl (lv_at hl 4 rfl) ?_
                                                                      refine r_cV (hroom := ⟨(show _ ≤ _ by (try simp only [LR]); omega), (show _ ≤ _ by (try simp only [LR]); omega)⟩) C X hm hs mlL_160 mvL_160 hh (vv := fun r => some (.int r)) (hp := fun r => r368.2) (fun b r hg => c_X16_thrown l G r368.2 b  r hg) rfl rfl (Nat.le_of_ble_eq_true rfl) (Nat.le_of_ble_eq_true rfl) (Nat.le_of_ble_eq_true rfl) hl.1 dL_law_1637 (fun b371 r370 H locs hgr370 hh hm hs => ?_)
                                                                      refine W.eq (g2 := F0 m 1640 ls [.int r370]) rfl ?_
                                                                      refine lv_iload C.1 C.2.1 dL_law_1640 (lv_at hl 1 rfl) ?_
                                                                      refine lv_icmp_eq (tgt := 1647) C.1 C.2.1 dL_law_1642 (by decide) (fun c375 => ?_) (fun c375 => ?_)
                                                                      · rw [if_pos c375] at hh
                                                                        refine lv_iload C.1 C.2.1 dL_law_1647 (lv_at hl 1 rfl) ?_
                                                                        refine lv_if_ne (tgt := 1664) C.1 C.2.1 dL_law_1649 (by decide) (fun c374 => ?_) (fun c374 => ?_)
                                                                        · rw [if_neg c374] at hh
                                                                          refine lv_goto (tgt := 1705) C.1 C.2.1 dL_law_1664 (by decide) ?_
                                                                          refine lv_iinc (v := (v4 + 7)) (lv' := [(4, .int (v4 + 7)), (6, .int r368.1), (5, .int r363.1), (0, .ref b), (1, va_rf v1), (2, va_rf v2), (3, va_rf v3)]) C.1 C.2.1 dL_law_1705 hl (k := 6) rfl rfl (by decide) (by simp [va_cat, vc_i, vc_l, vc_r]) (fun ls hl => ?_)
                                                                          refine lv_goto (tgt := 23) C.1 C.2.1 dL_law_1708 (by decide) ?_
                                                                          refine W.widen (k := ((513 - n) * 110 + 249)) (n := ((513 - n) * 1149 + 11693)) (by omega) (by omega) ?_
                                                                          exact ih (by omega) _ _ _ _ _ _ _ _  hm hs (lv_sub hl [3, 4, 5, 6, 0] rfl) hh
                                                                        · rw [if_pos c374] at hh
                                                                          refine r_aload_n C.1 C.2.1 dL_law_1652 rfl (lv_at hl 5 rfl) ?_
                                                                          refine lv_iconst (v := 0) C.1 C.2.1 dL_law_1653 (by decide) ?_
                                                                          refine r_lald C hm dL_law_1654 hh (fun x372 _ hh => ?_)
                                                                          refine lv_iload C.1 C.2.1 dL_law_1655 (lv_at hl 0 rfl) ?_
                                                                          refine lv_i2l (v := r368.1.toInt64) C.1 C.2.1 dL_law_1657 rfl ?_
                                                                          refine W.lcmp C.1 C.2.1 dL_law_1658 ?_
                                                                          refine lv_if_eq (tgt := 1664) C.1 C.2.1 dL_law_1659 (by decide) (fun c373 => ?_) (fun c373 => ?_)
                                                                          · rw [if_pos c373] at hh
                                                                            refine lv_goto (tgt := 1705) C.1 C.2.1 dL_law_1664 (by decide) ?_
                                                                            refine lv_iinc (v := (v4 + 7)) (lv' := [(4, .int (v4 + 7)), (6, .int r368.1), (5, .int r363.1), (0, .ref b), (1, va_rf v1), (2, va_rf v2), (3, va_rf v3)]) C.1 C.2.1 dL_law_1705 hl (k := 6) rfl rfl (by decide) (by simp [va_cat, vc_i, vc_l, vc_r]) (fun ls hl => ?_)
                                                                            refine lv_goto (tgt := 23) C.1 C.2.1 dL_law_1708 (by decide) ?_
                                                                            refine W.widen (k := ((513 - n) * 110 + 249)) (n := ((513 - n) * 1149 + 11693)) (by omega) (by omega) ?_
                                                                            exact ih (by omega) _ _ _ _ _ _ _ _  hm hs (lv_sub hl [3, 4, 5, 6, 0] rfl) hh
                                                                          · rw [if_neg c373] at hh
                                                                            refine lv_iconst (v := 0) C.1 C.2.1 dL_law_1662 (by decide) ?_
                                                                            cases hh
                                                                      · rw [if_neg c375] at hh
                                                                        refine lv_iconst (v := 0) C.1 C.2.1 dL_law_1645 (by decide) ?_
                                                                        cases hh
                                                                    · rw [if_neg c2_30] at hh
                                                                      by_cases c2_31 : (x1 &&& 63) = 31
                                                                      · rw [if_pos c2_31] at hh
                                                                        refine r_tsw (tgt := 1667) C dL_law_40 c2_31 (by decide) (by decide) rfl (by decide) ?_
                                                                        refine r_aload_n C.1 C.2.1 dL_law_1667 rfl (lv_at hl 1 rfl) ?_
                                                                        refine lv_aload_n C.1 C.2.1 dL_law_1668 rfl (lv_at hl 0 rfl) ?_
                                                                        refine lv_iload C.1 C.2.1 dL_law_1669 (lv_at hl 4 rfl) ?_
                                                                        refine lv_iconst (v := 1) C.1 C.2.1 dL_law_1671 (by decide) ?_
                                                                        refine lv_iadd C.1 C.2.1 dL_law_1672 ?_
                                                                        refine r_scr C hX hbs hbG hs dL_law_1673 hh (fun x376 _ hh => ?_)
                                                                        refine r_cV (hroom := ⟨(show _ ≤ _ by (try simp only [LR]); omega), (show _ ≤ _ by (try simp only [LR]); omega)⟩) C X hm hs mlL_163 mvL_163 hh (vv := fun r => some (.int r.1)) (hp := fun r => r.2) (fun b r hg => c_X11_count l G h b _ r hg) rfl rfl (Nat.le_of_ble_eq_true rfl) (Nat.le_of_ble_eq_true rfl) (Nat.le_of_ble_eq_true rfl) hl.1 dL_law_1674 (fun b378 r377 H locs hgr377 hh hm hs => ?_)
                                                                        refine W.eq (g2 := F0 m 1677 ls [.int r377.1]) rfl ?_
                                                                        refine r_aload_n C.1 C.2.1 dL_law_1677 rfl (lv_at hl 2 rfl) ?_
                                                                        refine lv_aload_n C.1 C.2.1 dL_law_1678 rfl (lv_at hl 0 rfl) ?_
                                                                        refine lv_iload C.1 C.2.1 dL_law_1679 (lv_at hl 4 rfl) ?_
                                                                        refine lv_iconst (v := 1) C.1 C.2.1 dL_law_1681 (by decide) ?_
                                                                        refine lv_iadd C.1 C.2.1 dL_law_1682 ?_
                                                                        refine r_scr C hX hbs hbG hs dL_law_1683 hh (fun x379 _ hh => ?_)
                                                                        refine r_cV (hroom := ⟨(show _ ≤ _ by (try simp only [LR]); omega), (show _ ≤ _ by (try simp only [LR]); omega)⟩) C X hm hs mlL_166 mvL_166 hh (vv := fun r => some (.int r.1)) (hp := fun r => r.2) (fun b r hg => c_X16_count l G r377.2 b _ r hg) rfl rfl (Nat.le_of_ble_eq_true rfl) (Nat.le_of_ble_eq_true rfl) (Nat.le_of_ble_eq_true rfl) hl.1 dL_law_1684 (fun b381 r380 H locs hgr380 hh hm hs => ?_)
                                                                        refine W.eq (g2 := F0 m 1687 ls [.int r380.1, .int r377.1]) rfl ?_
                                                                        refine lv_icmp_eq (tgt := 1705) C.1 C.2.1 dL_law_1687 (by decide) (fun c382 => ?_) (fun c382 => ?_)
                                                                        · rw [if_pos c382] at hh
                                                                          refine lv_iinc (v := (v4 + 7)) (lv' := [(4, .int (v4 + 7)), (0, .ref b), (1, va_rf v1), (2, va_rf v2), (3, va_rf v3)]) C.1 C.2.1 dL_law_1705 hl (k := 4) rfl rfl (by decide) (by simp [va_cat, vc_i, vc_l, vc_r]) (fun ls hl => ?_)
                                                                          refine lv_goto (tgt := 23) C.1 C.2.1 dL_law_1708 (by decide) ?_
                                                                          refine W.widen (k := ((513 - n) * 110 + 249)) (n := ((513 - n) * 1149 + 11693)) (by omega) (by omega) ?_
                                                                          exact ih (by omega) _ _ _ _ _ _ _ _  hm hs (lv_sub hl [1, 2, 3, 4, 0] rfl) hh
                                                                        · rw [if_neg c382] at hh
                                                                          refine lv_iconst (v := 0) C.1 C.2.1 dL_law_1690 (by decide) ?_
                                                                          cases hh
                                                                      · rw [if_neg c2_31] at hh
                                                                        by_cases c2_32 : (x1 &&& 63) = 32
                                                                        · rw [if_pos c2_32] at hh
                                                                          refine r_tsw (tgt := 1692) C dL_law_40 c2_32 (by decide) (by decide) rfl (by decide) ?_
                                                                          refine r_aload_n C.1 C.2.1 dL_law_1692 rfl (lv_at hl 1 rfl) ?_
                                                                          refine r_cV (hroom := ⟨(show _ ≤ _ by (try simp only [LR]); omega), (show _ ≤ _ by (try simp only [LR]); omega)⟩) C X hm hs mlL_167 mvL_167 hh (vv := fun r => some (.int r)) (hp := fun r => h) (fun b r hg => c_X11_trouble l G h b  r hg) rfl rfl (Nat.le_of_ble_eq_true rfl) (Nat.le_of_ble_eq_true rfl) (Nat.le_of_ble_eq_true rfl) hl.1 dL_law_1693 (fun b384 r383 H locs hgr383 hh hm hs => ?_)
                                                                          refine W.eq (g2 := F0 m 1696 ls [.int r383]) rfl ?_
                                                                          refine r_aload_n C.1 C.2.1 dL_law_1696 rfl (lv_at hl 2 rfl) ?_
                                                                          refine r_cV (hroom := ⟨(show _ ≤ _ by (try simp only [LR]); omega), (show _ ≤ _ by (try simp only [LR]); omega)⟩) C X hm hs mlL_170 mvL_170 hh (vv := fun r => some (.int r.1)) (hp := fun r => r.2) (fun b r hg => c_X16_trouble l G h b  r hg) rfl rfl (Nat.le_of_ble_eq_true rfl) (Nat.le_of_ble_eq_true rfl) (Nat.le_of_ble_eq_true rfl) hl.1 dL_law_1697 (fun b386 r385 H locs hgr385 hh hm hs => ?_)
                                                                          refine W.eq (g2 := F0 m 1700 ls [.int r385.1, .int r383]) rfl ?_
                                                                          refine lv_icmp_eq (tgt := 1705) C.1 C.2.1 dL_law_1700 (by decide) (fun c387 => ?_) (fun c387 => ?_)
                                                                          · rw [if_pos c387] at hh
                                                                            refine lv_iinc (v := (v4 + 7)) (lv' := [(4, .int (v4 + 7)), (0, .ref b), (1, va_rf v1), (2, va_rf v2), (3, va_rf v3)]) C.1 C.2.1 dL_law_1705 hl (k := 4) rfl rfl (by decide) (by simp [va_cat, vc_i, vc_l, vc_r]) (fun ls hl => ?_)
                                                                            refine lv_goto (tgt := 23) C.1 C.2.1 dL_law_1708 (by decide) ?_
                                                                            refine W.widen (k := ((513 - n) * 110 + 249)) (n := ((513 - n) * 1149 + 11693)) (by omega) (by omega) ?_
                                                                            exact ih (by omega) _ _ _ _ _ _ _ _  hm hs (lv_sub hl [1, 2, 3, 4, 0] rfl) hh
                                                                          · rw [if_neg c387] at hh
                                                                            refine lv_iconst (v := 0) C.1 C.2.1 dL_law_1703 (by decide) ?_
                                                                            cases hh
                                                                        · rw [if_neg c2_32] at hh
                                                                          refine lv_tableOut (tgt := 1705) C.1 C.2.1 dL_law_40 (tsw_out33 c2_0 c2_1 c2_2 c2_3 c2_4 c2_5 c2_6 c2_7 c2_8 c2_9 c2_10 c2_11 c2_12 c2_13 c2_14 c2_15 c2_16 c2_17 c2_18 c2_19 c2_20 c2_21 c2_22 c2_23 c2_24 c2_25 c2_26 c2_27 c2_28 c2_29 c2_30 c2_31 c2_32) (by decide) ?_
                                                                          refine lv_iinc (v := (v4 + 7)) (lv' := [(4, .int (v4 + 7)), (0, .ref b), (1, va_rf v1), (2, va_rf v2), (3, va_rf v3)]) C.1 C.2.1 dL_law_1705 hl (k := 4) rfl rfl (by decide) (by simp [va_cat, vc_i, vc_l, vc_r]) (fun ls hl => ?_)
                                                                          refine lv_goto (tgt := 23) C.1 C.2.1 dL_law_1708 (by decide) ?_
                                                                          refine W.widen (k := ((513 - n) * 110 + 249)) (n := ((513 - n) * 1149 + 11693)) (by omega) (by omega) ?_
                                                                          exact ih (by omega) _ _ _ _ _ _ _ _  hm hs (lv_sub hl [1, 2, 3, 4, 0] rfl) hh
  unfold mL_law at hh
  refine r_newG C hm hs nlL_8 (show _ ≤ _ by (try simp only [LR]); omega) (show _ ≤ _ by (try simp only [LR]); omega) dL_law_0 hh (fun h389 H hh hm hs => ?_)
  refine lv_dup C.1 C.2.1 dL_law_3 (va_cat _) ?_
  refine r_cC C X hm hs mlL_15 mcL_15 hh (hp := fun r => r) (fun r hg => c_X11_init l G h389 _  r hg) rfl rfl (by simp [va_cat, vc_i, vc_l, vc_r]) (Nat.le_of_ble_eq_true rfl) (Nat.le_of_ble_eq_true rfl) ⟨(show _ ≤ _ by (try simp only [LR]); omega), (show _ ≤ _ by (try simp only [LR]); omega)⟩ hl.1 dL_law_4 (fun r390 H locs hgr390 hh hm hs => ?_)
  refine r_astore_n (i := 1) (lv' := [(1, va_rf (some (hS h))), (0, .ref b)]) C.1 C.2.1 dL_law_7 rfl hl (by decide) rfl (fun ls hl => ?_)
  refine r_newG C hm hs nlL_16 (show _ ≤ _ by (try simp only [LR]); omega) (show _ ≤ _ by (try simp only [LR]); omega) dL_law_8 hh (fun h392 H hh hm hs => ?_)
  refine lv_dup C.1 C.2.1 dL_law_11 (va_cat _) ?_
  refine r_cC C X hm hs mlL_18 mcL_18 hh (hp := fun r => r) (fun r hg => c_X16_init l G h392 _  r hg) rfl rfl (by simp [va_cat, vc_i, vc_l, vc_r]) (Nat.le_of_ble_eq_true rfl) (Nat.le_of_ble_eq_true rfl) ⟨(show _ ≤ _ by (try simp only [LR]); omega), (show _ ≤ _ by (try simp only [LR]); omega)⟩ hl.1 dL_law_12 (fun r393 H locs hgr393 hh hm hs => ?_)
  refine r_astore_n (i := 2) (lv' := [(2, va_rf (some (hS r390))), (1, va_rf (some (hS h))), (0, .ref b)]) C.1 C.2.1 dL_law_15 rfl hl (by decide) (by simp [va_cat, vc_i, vc_l, vc_r]) (fun ls hl => ?_)
  refine lv_iconst (v := 1) C.1 C.2.1 dL_law_16 (by decide) ?_
  refine r_newaG C hm hs (kd := 21) (w := 8) (by decide) aw21 dL_law_17 (N := 1) (by decide) (by decide) (by decide) hh (show _ ≤ _ by (try simp only [LR]); omega) (show _ ≤ _ by (try simp only [LR]); omega) (fun h395 H hh hm hs => ?_)
  refine r_astore_n (i := 3) (lv' := [(3, va_rf (some (hS r393))), (2, va_rf (some (hS r390))), (1, va_rf (some (hS h))), (0, .ref b)]) C.1 C.2.1 dL_law_19 rfl hl (by decide) (by simp [va_cat, vc_i, vc_l, vc_r]) (fun ls hl => ?_)
  refine lv_iconst (v := 0) C.1 C.2.1 dL_law_20 (by decide) ?_
  refine lv_istore (i := 4) (lv' := [(4, .int 0), (3, va_rf (some (hS r393))), (2, va_rf (some (hS r390))), (1, va_rf (some (hS h))), (0, .ref b)]) C.1 C.2.1 dL_law_21 hl (by decide) (by simp [va_cat, vc_i, vc_l, vc_r]) (fun ls hl => ?_)
  refine W.widen (k := ((513 - 513) * 110 + 249)) (n := ((513 - 513) * 1149 + 11693)) (by omega) (by omega) ?_
  exact B23 513 (Nat.le_refl _) _ _ _ _ _ _ _ _  hm hs (lv_sub hl [4, 3, 2, 1, 0] rfl) hh

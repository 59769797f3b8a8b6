set_option maxRecDepth 100000 in
theorem wl_128 : Cond.methodLink RL 19 yX6_feed ∈ wsL_law0 := List.mem_of_getElem? (i := 128) rfl
set_option maxRecDepth 100000 in
theorem wl_129 : Cond.instanceMethod yX6_feed ∈ wsL_law0 := List.mem_of_getElem? (i := 129) rfl
set_option maxRecDepth 100000 in
theorem wl_130 : Cond.selects RX6 yX6_feed yX6_feed ∈ wsL_law0 := List.mem_of_getElem? (i := 130) rfl
set_option maxRecDepth 100000 in
theorem wl_131 : Cond.code yX6_feed cX6_feed 6 (some .int) ∈ wsL_law0 := List.mem_of_getElem? (i := 131) rfl
set_option maxRecDepth 100000 in
theorem wl_144 : Cond.methodLink RL 23 yX7_feed ∈ wsL_law0 := List.mem_of_getElem? (i := 144) rfl
set_option maxRecDepth 100000 in
theorem wl_145 : Cond.instanceMethod yX7_feed ∈ wsL_law0 := List.mem_of_getElem? (i := 145) rfl
set_option maxRecDepth 100000 in
theorem wl_146 : Cond.selects RX7 yX7_feed yX7_feed ∈ wsL_law0 := List.mem_of_getElem? (i := 146) rfl
set_option maxRecDepth 100000 in
theorem wl_147 : Cond.code yX7_feed cX7_feed 6 (some .int) ∈ wsL_law0 := List.mem_of_getElem? (i := 147) rfl
set_option maxRecDepth 100000 in
theorem wl_154 : Cond.methodLink RL 24 yX6_fill ∈ wsL_law0 := List.mem_of_getElem? (i := 154) rfl
set_option maxRecDepth 100000 in
theorem wl_155 : Cond.instanceMethod yX6_fill ∈ wsL_law0 := List.mem_of_getElem? (i := 155) rfl
set_option maxRecDepth 100000 in
theorem wl_156 : Cond.selects RX6 yX6_fill yX6_fill ∈ wsL_law0 := List.mem_of_getElem? (i := 156) rfl
set_option maxRecDepth 100000 in
theorem wl_157 : Cond.code yX6_fill cX6_fill 4 (some .int) ∈ wsL_law0 := List.mem_of_getElem? (i := 157) rfl
set_option maxRecDepth 100000 in
theorem wl_162 : Cond.methodLink RL 28 yX7_fill ∈ wsL_law0 := List.mem_of_getElem? (i := 162) rfl
set_option maxRecDepth 100000 in
theorem wl_163 : Cond.instanceMethod yX7_fill ∈ wsL_law0 := List.mem_of_getElem? (i := 163) rfl
set_option maxRecDepth 100000 in
theorem wl_164 : Cond.selects RX7 yX7_fill yX7_fill ∈ wsL_law0 := List.mem_of_getElem? (i := 164) rfl
set_option maxRecDepth 100000 in
theorem wl_165 : Cond.code yX7_fill cX7_fill 4 (some .int) ∈ wsL_law0 := List.mem_of_getElem? (i := 165) rfl
set_option maxRecDepth 100000 in
theorem wl_166 : Cond.methodLink RL 29 yX6_again ∈ wsL_law0 := List.mem_of_getElem? (i := 166) rfl
set_option maxRecDepth 100000 in
theorem wl_167 : Cond.instanceMethod yX6_again ∈ wsL_law0 := List.mem_of_getElem? (i := 167) rfl
set_option maxRecDepth 100000 in
theorem wl_168 : Cond.selects RX6 yX6_again yX6_again ∈ wsL_law0 := List.mem_of_getElem? (i := 168) rfl
set_option maxRecDepth 100000 in
theorem wl_169 : Cond.code yX6_again cX6_again 3 (some .int) ∈ wsL_law0 := List.mem_of_getElem? (i := 169) rfl
set_option maxRecDepth 100000 in
theorem wl_180 : Cond.methodLink RL 32 yX7_again ∈ wsL_law0 := List.mem_of_getElem? (i := 180) rfl
set_option maxRecDepth 100000 in
theorem wl_181 : Cond.instanceMethod yX7_again ∈ wsL_law0 := List.mem_of_getElem? (i := 181) rfl
set_option maxRecDepth 100000 in
theorem wl_182 : Cond.selects RX7 yX7_again yX7_again ∈ wsL_law0 := List.mem_of_getElem? (i := 182) rfl
set_option maxRecDepth 100000 in
theorem wl_183 : Cond.code yX7_again cX7_again 4 (some .int) ∈ wsL_law0 := List.mem_of_getElem? (i := 183) rfl
set_option maxRecDepth 100000 in
theorem wl_184 : Cond.methodLink RL 33 yX6_cut ∈ wsL_law0 := List.mem_of_getElem? (i := 184) rfl
set_option maxRecDepth 100000 in
theorem wl_185 : Cond.instanceMethod yX6_cut ∈ wsL_law0 := List.mem_of_getElem? (i := 185) rfl
set_option maxRecDepth 100000 in
theorem wl_186 : Cond.selects RX6 yX6_cut yX6_cut ∈ wsL_law0 := List.mem_of_getElem? (i := 186) rfl
set_option maxRecDepth 100000 in
theorem wl_187 : Cond.code yX6_cut cX6_cut 2 (some .int) ∈ wsL_law0 := List.mem_of_getElem? (i := 187) rfl
set_option maxRecDepth 100000 in
theorem wl_197 : Cond.methodLink RL 36 yX7_cut ∈ wsL_law0 := List.mem_of_getElem? (i := 197) rfl
set_option maxRecDepth 100000 in
theorem wl_198 : Cond.instanceMethod yX7_cut ∈ wsL_law0 := List.mem_of_getElem? (i := 198) rfl
set_option maxRecDepth 100000 in
theorem wl_199 : Cond.selects RX7 yX7_cut yX7_cut ∈ wsL_law0 := List.mem_of_getElem? (i := 199) rfl
set_option maxRecDepth 100000 in
theorem wl_200 : Cond.code yX7_cut cX7_cut 2 (some .int) ∈ wsL_law0 := List.mem_of_getElem? (i := 200) rfl
set_option maxRecDepth 100000 in
theorem wl_201 : Cond.methodLink RL 37 yX6_set ∈ wsL_law0 := List.mem_of_getElem? (i := 201) rfl
set_option maxRecDepth 100000 in
theorem wl_202 : Cond.instanceMethod yX6_set ∈ wsL_law0 := List.mem_of_getElem? (i := 202) rfl
set_option maxRecDepth 100000 in
theorem wl_203 : Cond.selects RX6 yX6_set yX6_set ∈ wsL_law0 := List.mem_of_getElem? (i := 203) rfl
set_option maxRecDepth 100000 in
theorem wl_204 : Cond.code yX6_set cX6_set 4 (some .int) ∈ wsL_law0 := List.mem_of_getElem? (i := 204) rfl
set_option maxRecDepth 100000 in
theorem wl_213 : Cond.methodLink RL 40 yX7_set ∈ wsL_law0 := List.mem_of_getElem? (i := 213) rfl
set_option maxRecDepth 100000 in
theorem wl_214 : Cond.instanceMethod yX7_set ∈ wsL_law0 := List.mem_of_getElem? (i := 214) rfl
set_option maxRecDepth 100000 in
theorem wl_215 : Cond.selects RX7 yX7_set yX7_set ∈ wsL_law0 := List.mem_of_getElem? (i := 215) rfl
set_option maxRecDepth 100000 in
theorem wl_216 : Cond.code yX7_set cX7_set 4 (some .int) ∈ wsL_law0 := List.mem_of_getElem? (i := 216) rfl
set_option maxRecDepth 100000 in
theorem wl_217 : Cond.methodLink RL 41 yX6_take ∈ wsL_law0 := List.mem_of_getElem? (i := 217) rfl
set_option maxRecDepth 100000 in
theorem wl_218 : Cond.instanceMethod yX6_take ∈ wsL_law0 := List.mem_of_getElem? (i := 218) rfl
set_option maxRecDepth 100000 in
theorem wl_219 : Cond.selects RX6 yX6_take yX6_take ∈ wsL_law0 := List.mem_of_getElem? (i := 219) rfl
set_option maxRecDepth 100000 in
theorem wl_220 : Cond.code yX6_take cX6_take 1 (some .int) ∈ wsL_law0 := List.mem_of_getElem? (i := 220) rfl
set_option maxRecDepth 100000 in
theorem wl_233 : Cond.methodLink RL 45 yX7_take ∈ wsL_law0 := List.mem_of_getElem? (i := 233) rfl
set_option maxRecDepth 100000 in
theorem wl_234 : Cond.instanceMethod yX7_take ∈ wsL_law0 := List.mem_of_getElem? (i := 234) rfl
set_option maxRecDepth 100000 in
theorem wl_235 : Cond.selects RX7 yX7_take yX7_take ∈ wsL_law0 := List.mem_of_getElem? (i := 235) rfl
set_option maxRecDepth 100000 in
theorem wl_236 : Cond.code yX7_take cX7_take 2 (some .int) ∈ wsL_law0 := List.mem_of_getElem? (i := 236) rfl
set_option maxRecDepth 100000 in
theorem wl_238 : Cond.methodLink RL 46 yX6_tape ∈ wsL_law0 := List.mem_of_getElem? (i := 238) rfl
set_option maxRecDepth 100000 in
theorem wl_239 : Cond.instanceMethod yX6_tape ∈ wsL_law0 := List.mem_of_getElem? (i := 239) rfl
set_option maxRecDepth 100000 in
theorem wl_240 : Cond.selects RX6 yX6_tape yX6_tape ∈ wsL_law0 := List.mem_of_getElem? (i := 240) rfl
set_option maxRecDepth 100000 in
theorem wl_241 : Cond.code yX6_tape cX6_tape 2 (some .int) ∈ wsL_law0 := List.mem_of_getElem? (i := 241) rfl
set_option maxRecDepth 100000 in
theorem wl_242 : Cond.methodLink RL 49 yX7_tape ∈ wsL_law0 := List.mem_of_getElem? (i := 242) rfl
set_option maxRecDepth 100000 in
theorem wl_243 : Cond.instanceMethod yX7_tape ∈ wsL_law0 := List.mem_of_getElem? (i := 243) rfl
set_option maxRecDepth 100000 in
theorem wl_244 : Cond.selects RX7 yX7_tape yX7_tape ∈ wsL_law0 := List.mem_of_getElem? (i := 244) rfl
set_option maxRecDepth 100000 in
theorem wl_245 : Cond.code yX7_tape cX7_tape 2 (some .int) ∈ wsL_law0 := List.mem_of_getElem? (i := 245) rfl
set_option maxRecDepth 100000 in
theorem wl_246 : Cond.methodLink RL 50 yX6_press ∈ wsL_law0 := List.mem_of_getElem? (i := 246) rfl
set_option maxRecDepth 100000 in
theorem wl_247 : Cond.instanceMethod yX6_press ∈ wsL_law0 := List.mem_of_getElem? (i := 247) rfl
set_option maxRecDepth 100000 in
theorem wl_248 : Cond.selects RX6 yX6_press yX6_press ∈ wsL_law0 := List.mem_of_getElem? (i := 248) rfl
set_option maxRecDepth 100000 in
theorem wl_249 : Cond.code yX6_press cX6_press 1 (some .int) ∈ wsL_law0 := List.mem_of_getElem? (i := 249) rfl
set_option maxRecDepth 100000 in
theorem wl_294 : Cond.methodLink RL 53 yX7_press ∈ wsL_law0 := List.mem_of_getElem? (i := 294) rfl
set_option maxRecDepth 100000 in
theorem wl_295 : Cond.instanceMethod yX7_press ∈ wsL_law0 := List.mem_of_getElem? (i := 295) rfl
set_option maxRecDepth 100000 in
theorem wl_296 : Cond.selects RX7 yX7_press yX7_press ∈ wsL_law0 := List.mem_of_getElem? (i := 296) rfl
set_option maxRecDepth 100000 in
theorem wl_297 : Cond.code yX7_press cX7_press 1 (some .int) ∈ wsL_law0 := List.mem_of_getElem? (i := 297) rfl
set_option maxRecDepth 100000 in
theorem wl_337 : Cond.methodLink RL 54 yX6_open ∈ wsL_law0 := List.mem_of_getElem? (i := 337) rfl
set_option maxRecDepth 100000 in
theorem wl_338 : Cond.instanceMethod yX6_open ∈ wsL_law0 := List.mem_of_getElem? (i := 338) rfl
set_option maxRecDepth 100000 in
theorem wl_339 : Cond.selects RX6 yX6_open yX6_open ∈ wsL_law0 := List.mem_of_getElem? (i := 339) rfl
set_option maxRecDepth 100000 in
theorem wl_340 : Cond.code yX6_open cX6_open 1 (some .int) ∈ wsL_law0 := List.mem_of_getElem? (i := 340) rfl
set_option maxRecDepth 100000 in
theorem wl_405 : Cond.methodLink RL 57 yX7_open ∈ wsL_law0 := List.mem_of_getElem? (i := 405) rfl
set_option maxRecDepth 100000 in
theorem wl_406 : Cond.instanceMethod yX7_open ∈ wsL_law0 := List.mem_of_getElem? (i := 406) rfl
set_option maxRecDepth 100000 in
theorem wl_407 : Cond.selects RX7 yX7_open yX7_open ∈ wsL_law0 := List.mem_of_getElem? (i := 407) rfl
set_option maxRecDepth 100000 in
theorem wl_408 : Cond.code yX7_open cX7_open 2 (some .int) ∈ wsL_law0 := List.mem_of_getElem? (i := 408) rfl
set_option maxRecDepth 100000 in
theorem wl_437 : Cond.methodLink RL 58 yX6_stream ∈ wsL_law0 := List.mem_of_getElem? (i := 437) rfl
set_option maxRecDepth 100000 in
theorem wl_438 : Cond.instanceMethod yX6_stream ∈ wsL_law0 := List.mem_of_getElem? (i := 438) rfl
set_option maxRecDepth 100000 in
theorem wl_439 : Cond.selects RX6 yX6_stream yX6_stream ∈ wsL_law0 := List.mem_of_getElem? (i := 439) rfl
set_option maxRecDepth 100000 in
theorem wl_440 : Cond.code yX6_stream cX6_stream 2 (some .int) ∈ wsL_law0 := List.mem_of_getElem? (i := 440) rfl
set_option maxRecDepth 100000 in
theorem wl_475 : Cond.methodLink RL 61 yX7_stream ∈ wsL_law0 := List.mem_of_getElem? (i := 475) rfl
set_option maxRecDepth 100000 in
theorem wl_476 : Cond.instanceMethod yX7_stream ∈ wsL_law0 := List.mem_of_getElem? (i := 476) rfl
set_option maxRecDepth 100000 in
theorem wl_477 : Cond.selects RX7 yX7_stream yX7_stream ∈ wsL_law0 := List.mem_of_getElem? (i := 477) rfl
set_option maxRecDepth 100000 in
theorem wl_478 : Cond.code yX7_stream cX7_stream 3 (some .int) ∈ wsL_law0 := List.mem_of_getElem? (i := 478) rfl
set_option maxRecDepth 100000 in
theorem wl_501 : Cond.methodLink RL 62 yX6_unstream ∈ wsL_law0 := List.mem_of_getElem? (i := 501) rfl
set_option maxRecDepth 100000 in
theorem wl_502 : Cond.instanceMethod yX6_unstream ∈ wsL_law0 := List.mem_of_getElem? (i := 502) rfl
set_option maxRecDepth 100000 in
theorem wl_503 : Cond.selects RX6 yX6_unstream yX6_unstream ∈ wsL_law0 := List.mem_of_getElem? (i := 503) rfl
set_option maxRecDepth 100000 in
theorem wl_504 : Cond.code yX6_unstream cX6_unstream 1 (some .int) ∈ wsL_law0 := List.mem_of_getElem? (i := 504) rfl
set_option maxRecDepth 100000 in
theorem wl_550 : Cond.methodLink RL 65 yX7_unstream ∈ wsL_law0 := List.mem_of_getElem? (i := 550) rfl
set_option maxRecDepth 100000 in
theorem wl_551 : Cond.instanceMethod yX7_unstream ∈ wsL_law0 := List.mem_of_getElem? (i := 551) rfl
set_option maxRecDepth 100000 in
theorem wl_552 : Cond.selects RX7 yX7_unstream yX7_unstream ∈ wsL_law0 := List.mem_of_getElem? (i := 552) rfl
set_option maxRecDepth 100000 in
theorem wl_553 : Cond.code yX7_unstream cX7_unstream 3 (some .int) ∈ wsL_law0 := List.mem_of_getElem? (i := 553) rfl
set_option maxRecDepth 100000 in
theorem wl_574 : Cond.methodLink RL 66 yX6_fault ∈ wsL_law0 := List.mem_of_getElem? (i := 574) rfl
set_option maxRecDepth 100000 in
theorem wl_575 : Cond.instanceMethod yX6_fault ∈ wsL_law0 := List.mem_of_getElem? (i := 575) rfl
set_option maxRecDepth 100000 in
theorem wl_576 : Cond.selects RX6 yX6_fault yX6_fault ∈ wsL_law0 := List.mem_of_getElem? (i := 576) rfl
set_option maxRecDepth 100000 in
theorem wl_577 : Cond.code yX6_fault cX6_fault 2 (some .int) ∈ wsL_law0 := List.mem_of_getElem? (i := 577) rfl
set_option maxRecDepth 100000 in
theorem wl_578 : Cond.methodLink RL 69 yX7_fault ∈ wsL_law0 := List.mem_of_getElem? (i := 578) rfl
set_option maxRecDepth 100000 in
theorem wl_579 : Cond.instanceMethod yX7_fault ∈ wsL_law0 := List.mem_of_getElem? (i := 579) rfl
set_option maxRecDepth 100000 in
theorem wl_580 : Cond.selects RX7 yX7_fault yX7_fault ∈ wsL_law0 := List.mem_of_getElem? (i := 580) rfl
set_option maxRecDepth 100000 in
theorem wl_581 : Cond.code yX7_fault cX7_fault 2 (some .int) ∈ wsL_law0 := List.mem_of_getElem? (i := 581) rfl
set_option maxRecDepth 100000 in
theorem wl_582 : Cond.methodLink RL 70 yX6_element ∈ wsL_law0 := List.mem_of_getElem? (i := 582) rfl
set_option maxRecDepth 100000 in
theorem wl_583 : Cond.instanceMethod yX6_element ∈ wsL_law0 := List.mem_of_getElem? (i := 583) rfl
set_option maxRecDepth 100000 in
theorem wl_584 : Cond.selects RX6 yX6_element yX6_element ∈ wsL_law0 := List.mem_of_getElem? (i := 584) rfl
set_option maxRecDepth 100000 in
theorem wl_585 : Cond.code yX6_element cX6_element 3 (some .int) ∈ wsL_law0 := List.mem_of_getElem? (i := 585) rfl
set_option maxRecDepth 100000 in
theorem wl_590 : Cond.methodLink RL 73 yX7_element ∈ wsL_law0 := List.mem_of_getElem? (i := 590) rfl
set_option maxRecDepth 100000 in
theorem wl_591 : Cond.instanceMethod yX7_element ∈ wsL_law0 := List.mem_of_getElem? (i := 591) rfl
set_option maxRecDepth 100000 in
theorem wl_592 : Cond.selects RX7 yX7_element yX7_element ∈ wsL_law0 := List.mem_of_getElem? (i := 592) rfl
set_option maxRecDepth 100000 in
theorem wl_593 : Cond.code yX7_element cX7_element 3 (some .int) ∈ wsL_law0 := List.mem_of_getElem? (i := 593) rfl
set_option maxRecDepth 100000 in
theorem wl_594 : Cond.methodLink RL 74 yX6_chunk ∈ wsL_law0 := List.mem_of_getElem? (i := 594) rfl
set_option maxRecDepth 100000 in
theorem wl_595 : Cond.instanceMethod yX6_chunk ∈ wsL_law0 := List.mem_of_getElem? (i := 595) rfl
set_option maxRecDepth 100000 in
theorem wl_596 : Cond.selects RX6 yX6_chunk yX6_chunk ∈ wsL_law0 := List.mem_of_getElem? (i := 596) rfl
set_option maxRecDepth 100000 in
theorem wl_597 : Cond.code yX6_chunk cX6_chunk 3 (some .int) ∈ wsL_law0 := List.mem_of_getElem? (i := 597) rfl
set_option maxRecDepth 100000 in
theorem wl_598 : Cond.methodLink RL 77 yX7_chunk ∈ wsL_law0 := List.mem_of_getElem? (i := 598) rfl
set_option maxRecDepth 100000 in
theorem wl_599 : Cond.instanceMethod yX7_chunk ∈ wsL_law0 := List.mem_of_getElem? (i := 599) rfl
set_option maxRecDepth 100000 in
theorem wl_600 : Cond.selects RX7 yX7_chunk yX7_chunk ∈ wsL_law0 := List.mem_of_getElem? (i := 600) rfl
set_option maxRecDepth 100000 in
theorem wl_601 : Cond.code yX7_chunk cX7_chunk 3 (some .int) ∈ wsL_law0 := List.mem_of_getElem? (i := 601) rfl
set_option maxRecDepth 100000 in
theorem wl_602 : Cond.methodLink RL 78 yX6_sum ∈ wsL_law0 := List.mem_of_getElem? (i := 602) rfl
set_option maxRecDepth 100000 in
theorem wl_603 : Cond.instanceMethod yX6_sum ∈ wsL_law0 := List.mem_of_getElem? (i := 603) rfl
set_option maxRecDepth 100000 in
theorem wl_604 : Cond.selects RX6 yX6_sum yX6_sum ∈ wsL_law0 := List.mem_of_getElem? (i := 604) rfl
set_option maxRecDepth 100000 in
theorem wl_605 : Cond.code yX6_sum cX6_sum 4 (some .int) ∈ wsL_law0 := List.mem_of_getElem? (i := 605) rfl
set_option maxRecDepth 100000 in
theorem wl_608 : Cond.methodLink RL 82 yX7_sum ∈ wsL_law0 := List.mem_of_getElem? (i := 608) rfl
set_option maxRecDepth 100000 in
theorem wl_609 : Cond.instanceMethod yX7_sum ∈ wsL_law0 := List.mem_of_getElem? (i := 609) rfl
set_option maxRecDepth 100000 in
theorem wl_610 : Cond.selects RX7 yX7_sum yX7_sum ∈ wsL_law0 := List.mem_of_getElem? (i := 610) rfl
set_option maxRecDepth 100000 in
theorem wl_611 : Cond.code yX7_sum cX7_sum 5 (some .int) ∈ wsL_law0 := List.mem_of_getElem? (i := 611) rfl
set_option maxRecDepth 100000 in
theorem wl_631 : Cond.methodLink RL 92 yX6_about ∈ wsL_law0 := List.mem_of_getElem? (i := 631) rfl
set_option maxRecDepth 100000 in
theorem wl_632 : Cond.instanceMethod yX6_about ∈ wsL_law0 := List.mem_of_getElem? (i := 632) rfl
set_option maxRecDepth 100000 in
theorem wl_633 : Cond.selects RX6 yX6_about yX6_about ∈ wsL_law0 := List.mem_of_getElem? (i := 633) rfl
set_option maxRecDepth 100000 in
theorem wl_634 : Cond.code yX6_about cX6_about 2 (some .int) ∈ wsL_law0 := List.mem_of_getElem? (i := 634) rfl
set_option maxRecDepth 100000 in
theorem wl_635 : Cond.methodLink RL 95 yX7_about ∈ wsL_law0 := List.mem_of_getElem? (i := 635) rfl
set_option maxRecDepth 100000 in
theorem wl_636 : Cond.instanceMethod yX7_about ∈ wsL_law0 := List.mem_of_getElem? (i := 636) rfl
set_option maxRecDepth 100000 in
theorem wl_637 : Cond.selects RX7 yX7_about yX7_about ∈ wsL_law0 := List.mem_of_getElem? (i := 637) rfl
set_option maxRecDepth 100000 in
theorem wl_638 : Cond.code yX7_about cX7_about 2 (some .int) ∈ wsL_law0 := List.mem_of_getElem? (i := 638) rfl
set_option maxRecDepth 100000 in
theorem wl_623 : Cond.methodLink RL 88 yX7_out ∈ wsL_law0 := List.mem_of_getElem? (i := 623) rfl
set_option maxRecDepth 100000 in
theorem wl_624 : Cond.instanceMethod yX7_out ∈ wsL_law0 := List.mem_of_getElem? (i := 624) rfl
set_option maxRecDepth 100000 in
theorem wl_625 : Cond.selects RX7 yX7_out yX7_out ∈ wsL_law0 := List.mem_of_getElem? (i := 625) rfl
set_option maxRecDepth 100000 in
theorem wl_626 : Cond.code yX7_out cX7_out 2 (some .int) ∈ wsL_law0 := List.mem_of_getElem? (i := 626) rfl
set_option maxRecDepth 100000 in
theorem wl_627 : Cond.methodLink RL 89 yX7_thrown ∈ wsL_law0 := List.mem_of_getElem? (i := 627) rfl
set_option maxRecDepth 100000 in
theorem wl_628 : Cond.instanceMethod yX7_thrown ∈ wsL_law0 := List.mem_of_getElem? (i := 628) rfl
set_option maxRecDepth 100000 in
theorem wl_629 : Cond.selects RX7 yX7_thrown yX7_thrown ∈ wsL_law0 := List.mem_of_getElem? (i := 629) rfl
set_option maxRecDepth 100000 in
theorem wl_630 : Cond.code yX7_thrown cX7_thrown 1 (some .int) ∈ wsL_law0 := List.mem_of_getElem? (i := 630) rfl

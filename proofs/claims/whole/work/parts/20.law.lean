def bk_LW_law_1523 (rc_23 : Nat → Nat → Nat → Int32 → ah_H → Prop) (L : Nat) (xs : Nat → Int32) (x34 : Nat) (x35 : Nat) (x36 : Nat) (x37 : Int32) (h38 : ah_H) : Prop :=
  ∀ v39 : Int32, v39 = x37 + 5 → rc_23 x34 x35 x36 v39 h38
def bk_LW_law_136 (rc_23 : Nat → Nat → Nat → Int32 → ah_H → Prop) (L : Nat) (xs : Nat → Int32) (x40 : Nat) (x41 : Nat) (x42 : Nat) (x43 : Int32) (h44 : ah_H) : Prop :=
  vp_in (x43 + (1 : Int32)) L ∧ vp_in (x43 + (2 : Int32)) L ∧ vp_in (x43 + (3 : Int32)) L ∧ w_LW_set x40 (xs (x43 + (1 : Int32)).toNatClampNeg) ((((xs (x43 + (2 : Int32)).toNatClampNeg).toInt64) <<< ((32 : Int32).toInt64 &&& 63)) ||| (((xs (x43 + (3 : Int32)).toNatClampNeg).toInt64) &&& (4294967295 : Int64))) h44 (fun r49 h48 => ah_m h44 h48 → vp_in (x43 + (1 : Int32)) L ∧ vp_in (x43 + (2 : Int32)) L ∧ vp_in (x43 + (3 : Int32)) L ∧ ah_T h48 x41 = 5 ∧ w_MO_set x41 (xs (x43 + (1 : Int32)).toNatClampNeg) ((((xs (x43 + (2 : Int32)).toNatClampNeg).toInt64) <<< ((32 : Int32).toInt64 &&& 63)) ||| (((xs (x43 + (3 : Int32)).toNatClampNeg).toInt64) &&& (4294967295 : Int64))) h48 (fun h55 => ah_m h48 h55 → w_MO_thrown x41 h55 (fun r59 h58 => ah_m h55 h58 → (r59 = r49 → (bk_LW_law_1523 rc_23 L xs x40 x41 x42 x43 h58)) ∧ (¬ r59 = r49 → (False)))))
def bk_LW_law_216 (rc_23 : Nat → Nat → Nat → Int32 → ah_H → Prop) (L : Nat) (xs : Nat → Int32) (x63 : Nat) (x64 : Nat) (x65 : Nat) (x66 : Int32) (h67 : ah_H) : Prop :=
  vp_in (x66 + (1 : Int32)) L ∧ vp_in (x66 + (2 : Int32)) L ∧ w_LW_copy x63 (xs (x66 + (1 : Int32)).toNatClampNeg) (xs (x66 + (2 : Int32)).toNatClampNeg) h67 (fun r71 h70 => ah_m h67 h70 → vp_in (x66 + (1 : Int32)) L ∧ vp_in (x66 + (2 : Int32)) L ∧ ah_T h70 x64 = 5 ∧ w_MO_copy x64 (xs (x66 + (1 : Int32)).toNatClampNeg) (xs (x66 + (2 : Int32)).toNatClampNeg) h70 (fun h76 => ah_m h70 h76 → w_MO_thrown x64 h76 (fun r80 h79 => ah_m h76 h79 → (r80 = r71 → (bk_LW_law_1523 rc_23 L xs x63 x64 x65 x66 h79)) ∧ (¬ r80 = r71 → (False)))))
def bk_LW_law_264 (rc_23 : Nat → Nat → Nat → Int32 → ah_H → Prop) (L : Nat) (xs : Nat → Int32) (x84 : Nat) (x85 : Nat) (x86 : Nat) (x87 : Int32) (h88 : ah_H) : Prop :=
  vp_in (x87 + (1 : Int32)) L ∧ vp_in (x87 + (2 : Int32)) L ∧ vp_in (x87 + (3 : Int32)) L ∧ w_LW_add x84 (xs (x87 + (1 : Int32)).toNatClampNeg) (xs (x87 + (2 : Int32)).toNatClampNeg) (xs (x87 + (3 : Int32)).toNatClampNeg) h88 (fun r93 h92 => ah_m h88 h92 → vp_in (x87 + (1 : Int32)) L ∧ vp_in (x87 + (2 : Int32)) L ∧ vp_in (x87 + (3 : Int32)) L ∧ ah_T h92 x85 = 5 ∧ w_MO_add x85 (xs (x87 + (1 : Int32)).toNatClampNeg) (xs (x87 + (2 : Int32)).toNatClampNeg) (xs (x87 + (3 : Int32)).toNatClampNeg) h92 (fun h99 => ah_m h92 h99 → w_MO_thrown x85 h99 (fun r103 h102 => ah_m h99 h102 → (r103 = r93 → (bk_LW_law_1523 rc_23 L xs x84 x85 x86 x87 h102)) ∧ (¬ r103 = r93 → (False)))))
def bk_LW_law_324 (rc_23 : Nat → Nat → Nat → Int32 → ah_H → Prop) (L : Nat) (xs : Nat → Int32) (x107 : Nat) (x108 : Nat) (x109 : Nat) (x110 : Int32) (h111 : ah_H) : Prop :=
  vp_in (x110 + (1 : Int32)) L ∧ vp_in (x110 + (2 : Int32)) L ∧ vp_in (x110 + (3 : Int32)) L ∧ w_LW_subtract x107 (xs (x110 + (1 : Int32)).toNatClampNeg) (xs (x110 + (2 : Int32)).toNatClampNeg) (xs (x110 + (3 : Int32)).toNatClampNeg) h111 (fun r116 h115 => ah_m h111 h115 → vp_in (x110 + (1 : Int32)) L ∧ vp_in (x110 + (2 : Int32)) L ∧ vp_in (x110 + (3 : Int32)) L ∧ ah_T h115 x108 = 5 ∧ w_MO_subtract x108 (xs (x110 + (1 : Int32)).toNatClampNeg) (xs (x110 + (2 : Int32)).toNatClampNeg) (xs (x110 + (3 : Int32)).toNatClampNeg) h115 (fun h122 => ah_m h115 h122 → w_MO_thrown x108 h122 (fun r126 h125 => ah_m h122 h125 → (r126 = r116 → (bk_LW_law_1523 rc_23 L xs x107 x108 x109 x110 h125)) ∧ (¬ r126 = r116 → (False)))))
def bk_LW_law_384 (rc_23 : Nat → Nat → Nat → Int32 → ah_H → Prop) (L : Nat) (xs : Nat → Int32) (x130 : Nat) (x131 : Nat) (x132 : Nat) (x133 : Int32) (h134 : ah_H) : Prop :=
  vp_in (x133 + (1 : Int32)) L ∧ vp_in (x133 + (2 : Int32)) L ∧ vp_in (x133 + (3 : Int32)) L ∧ w_LW_multiply x130 (xs (x133 + (1 : Int32)).toNatClampNeg) (xs (x133 + (2 : Int32)).toNatClampNeg) (xs (x133 + (3 : Int32)).toNatClampNeg) h134 (fun r139 h138 => ah_m h134 h138 → vp_in (x133 + (1 : Int32)) L ∧ vp_in (x133 + (2 : Int32)) L ∧ vp_in (x133 + (3 : Int32)) L ∧ ah_T h138 x131 = 5 ∧ w_MO_multiply x131 (xs (x133 + (1 : Int32)).toNatClampNeg) (xs (x133 + (2 : Int32)).toNatClampNeg) (xs (x133 + (3 : Int32)).toNatClampNeg) h138 (fun h145 => ah_m h138 h145 → w_MO_thrown x131 h145 (fun r149 h148 => ah_m h145 h148 → (r149 = r139 → (bk_LW_law_1523 rc_23 L xs x130 x131 x132 x133 h148)) ∧ (¬ r149 = r139 → (False)))))
def bk_LW_law_444 (rc_23 : Nat → Nat → Nat → Int32 → ah_H → Prop) (L : Nat) (xs : Nat → Int32) (x153 : Nat) (x154 : Nat) (x155 : Nat) (x156 : Int32) (h157 : ah_H) : Prop :=
  vp_in (x156 + (1 : Int32)) L ∧ vp_in (x156 + (2 : Int32)) L ∧ vp_in (x156 + (3 : Int32)) L ∧ vp_in (x156 + (4 : Int32)) L ∧ w_LW_times x153 (xs (x156 + (1 : Int32)).toNatClampNeg) (xs (x156 + (2 : Int32)).toNatClampNeg) ((((xs (x156 + (3 : Int32)).toNatClampNeg).toInt64) <<< ((32 : Int32).toInt64 &&& 63)) ||| (((xs (x156 + (4 : Int32)).toNatClampNeg).toInt64) &&& (4294967295 : Int64))) h157 (fun r163 h162 => ah_m h157 h162 → vp_in (x156 + (1 : Int32)) L ∧ vp_in (x156 + (2 : Int32)) L ∧ vp_in (x156 + (3 : Int32)) L ∧ vp_in (x156 + (4 : Int32)) L ∧ ah_T h162 x154 = 5 ∧ w_MO_times x154 (xs (x156 + (1 : Int32)).toNatClampNeg) (xs (x156 + (2 : Int32)).toNatClampNeg) ((((xs (x156 + (3 : Int32)).toNatClampNeg).toInt64) <<< ((32 : Int32).toInt64 &&& 63)) ||| (((xs (x156 + (4 : Int32)).toNatClampNeg).toInt64) &&& (4294967295 : Int64))) h162 (fun h170 => ah_m h162 h170 → w_MO_thrown x154 h170 (fun r174 h173 => ah_m h170 h173 → (r174 = r163 → (bk_LW_law_1523 rc_23 L xs x153 x154 x155 x156 h173)) ∧ (¬ r174 = r163 → (False)))))
def bk_LW_law_536 (rc_23 : Nat → Nat → Nat → Int32 → ah_H → Prop) (L : Nat) (xs : Nat → Int32) (x178 : Nat) (x179 : Nat) (x180 : Nat) (x181 : Int32) (h182 : ah_H) : Prop :=
  vp_in (x181 + (1 : Int32)) L ∧ vp_in (x181 + (2 : Int32)) L ∧ vp_in (x181 + (3 : Int32)) L ∧ w_LW_shift x178 (xs (x181 + (1 : Int32)).toNatClampNeg) (xs (x181 + (2 : Int32)).toNatClampNeg) (xs (x181 + (3 : Int32)).toNatClampNeg) h182 (fun r187 h186 => ah_m h182 h186 → vp_in (x181 + (1 : Int32)) L ∧ vp_in (x181 + (2 : Int32)) L ∧ vp_in (x181 + (3 : Int32)) L ∧ ah_T h186 x179 = 5 ∧ w_MO_shift x179 (xs (x181 + (1 : Int32)).toNatClampNeg) (xs (x181 + (2 : Int32)).toNatClampNeg) (xs (x181 + (3 : Int32)).toNatClampNeg) h186 (fun h193 => ah_m h186 h193 → w_MO_thrown x179 h193 (fun r197 h196 => ah_m h193 h196 → (r197 = r187 → (bk_LW_law_1523 rc_23 L xs x178 x179 x180 x181 h196)) ∧ (¬ r197 = r187 → (False)))))
def bk_LW_law_596 (rc_23 : Nat → Nat → Nat → Int32 → ah_H → Prop) (L : Nat) (xs : Nat → Int32) (x201 : Nat) (x202 : Nat) (x203 : Nat) (x204 : Int32) (h205 : ah_H) : Prop :=
  vp_in (x204 + (1 : Int32)) L ∧ vp_in (x204 + (2 : Int32)) L ∧ vp_in (x204 + (3 : Int32)) L ∧ w_LW_half x201 (xs (x204 + (1 : Int32)).toNatClampNeg) (xs (x204 + (2 : Int32)).toNatClampNeg) (xs (x204 + (3 : Int32)).toNatClampNeg) h205 (fun r210 h209 => ah_m h205 h209 → vp_in (x204 + (1 : Int32)) L ∧ vp_in (x204 + (2 : Int32)) L ∧ vp_in (x204 + (3 : Int32)) L ∧ ah_T h209 x202 = 5 ∧ w_MO_half x202 (xs (x204 + (1 : Int32)).toNatClampNeg) (xs (x204 + (2 : Int32)).toNatClampNeg) (xs (x204 + (3 : Int32)).toNatClampNeg) h209 (fun h216 => ah_m h209 h216 → w_MO_thrown x202 h216 (fun r220 h219 => ah_m h216 h219 → (r220 = r210 → (bk_LW_law_1523 rc_23 L xs x201 x202 x203 x204 h219)) ∧ (¬ r220 = r210 → (False)))))
def bk_LW_law_656 (rc_23 : Nat → Nat → Nat → Int32 → ah_H → Prop) (L : Nat) (xs : Nat → Int32) (x224 : Nat) (x225 : Nat) (x226 : Nat) (x227 : Int32) (h228 : ah_H) : Prop :=
  vp_in (x227 + (1 : Int32)) L ∧ vp_in (x227 + (2 : Int32)) L ∧ vp_in (x227 + (3 : Int32)) L ∧ vp_in (x227 + (4 : Int32)) L ∧ w_LW_divide x224 (xs (x227 + (1 : Int32)).toNatClampNeg) (xs (x227 + (2 : Int32)).toNatClampNeg) (xs (x227 + (3 : Int32)).toNatClampNeg) (xs (x227 + (4 : Int32)).toNatClampNeg) h228 (fun r234 h233 => ah_m h228 h233 → vp_in (x227 + (1 : Int32)) L ∧ vp_in (x227 + (2 : Int32)) L ∧ vp_in (x227 + (3 : Int32)) L ∧ vp_in (x227 + (4 : Int32)) L ∧ ah_T h233 x225 = 5 ∧ w_MO_divide x225 (xs (x227 + (1 : Int32)).toNatClampNeg) (xs (x227 + (2 : Int32)).toNatClampNeg) (xs (x227 + (3 : Int32)).toNatClampNeg) (xs (x227 + (4 : Int32)).toNatClampNeg) h233 (fun h241 => ah_m h233 h241 → w_MO_thrown x225 h241 (fun r245 h244 => ah_m h241 h244 → (r245 = r234 → (bk_LW_law_1523 rc_23 L xs x224 x225 x226 x227 h244)) ∧ (¬ r245 = r234 → (False)))))
def bk_LW_law_728 (rc_23 : Nat → Nat → Nat → Int32 → ah_H → Prop) (L : Nat) (xs : Nat → Int32) (x249 : Nat) (x250 : Nat) (x251 : Nat) (x252 : Int32) (h253 : ah_H) : Prop :=
  vp_in (x252 + (1 : Int32)) L ∧ vp_in (x252 + (2 : Int32)) L ∧ vp_in (x252 + (3 : Int32)) L ∧ w_LW_gcd x249 (xs (x252 + (1 : Int32)).toNatClampNeg) (xs (x252 + (2 : Int32)).toNatClampNeg) (xs (x252 + (3 : Int32)).toNatClampNeg) h253 (fun r258 h257 => ah_m h253 h257 → vp_in (x252 + (1 : Int32)) L ∧ vp_in (x252 + (2 : Int32)) L ∧ vp_in (x252 + (3 : Int32)) L ∧ ah_T h257 x250 = 5 ∧ w_MO_gcd x250 (xs (x252 + (1 : Int32)).toNatClampNeg) (xs (x252 + (2 : Int32)).toNatClampNeg) (xs (x252 + (3 : Int32)).toNatClampNeg) h257 (fun h264 => ah_m h257 h264 → w_MO_thrown x250 h264 (fun r268 h267 => ah_m h264 h267 → (r268 = r258 → (bk_LW_law_1523 rc_23 L xs x249 x250 x251 x252 h267)) ∧ (¬ r268 = r258 → (False)))))
def bk_LW_law_788 (rc_23 : Nat → Nat → Nat → Int32 → ah_H → Prop) (L : Nat) (xs : Nat → Int32) (x272 : Nat) (x273 : Nat) (x274 : Nat) (x275 : Int32) (h276 : ah_H) : Prop :=
  vp_in (x275 + (1 : Int32)) L ∧ vp_in (x275 + (2 : Int32)) L ∧ w_LW_negate x272 (xs (x275 + (1 : Int32)).toNatClampNeg) (xs (x275 + (2 : Int32)).toNatClampNeg) h276 (fun r280 h279 => ah_m h276 h279 → vp_in (x275 + (1 : Int32)) L ∧ vp_in (x275 + (2 : Int32)) L ∧ ah_T h279 x273 = 5 ∧ w_MO_negate x273 (xs (x275 + (1 : Int32)).toNatClampNeg) (xs (x275 + (2 : Int32)).toNatClampNeg) h279 (fun h285 => ah_m h279 h285 → w_MO_thrown x273 h285 (fun r289 h288 => ah_m h285 h288 → (r289 = r280 → (bk_LW_law_1523 rc_23 L xs x272 x273 x274 x275 h288)) ∧ (¬ r289 = r280 → (False)))))
def bk_LW_law_901 (rc_23 : Nat → Nat → Nat → Int32 → ah_H → Prop) (L : Nat) (xs : Nat → Int32) (x316 : Nat) (x317 : Nat) (x318 : Nat) (x319 : Int32) (h320 : ah_H) : Prop :=
  bk_LW_law_1523 rc_23 L xs x316 x317 x318 x319 h320
def bk_LW_law_836 (rc_23 : Nat → Nat → Nat → Int32 → ah_H → Prop) (L : Nat) (xs : Nat → Int32) (x293 : Nat) (x294 : Nat) (x295 : Nat) (x296 : Int32) (h297 : ah_H) : Prop :=
  vp_in (x296 + (1 : Int32)) L ∧ vp_in (x296 + (2 : Int32)) L ∧ w_LW_compare x293 (xs (x296 + (1 : Int32)).toNatClampNeg) (xs (x296 + (2 : Int32)).toNatClampNeg) x295 h297 (fun r301 h300 => ah_m h297 h300 → vp_in (x296 + (1 : Int32)) L ∧ vp_in (x296 + (2 : Int32)) L ∧ ah_T h300 x294 = 5 ∧ w_MO_compare x294 (xs (x296 + (1 : Int32)).toNatClampNeg) (xs (x296 + (2 : Int32)).toNatClampNeg) h300 (fun r307 h306 => ah_m h300 h306 → w_MO_thrown x294 h306 (fun r311 h310 => ah_m h306 h310 → (r311 = r301 → ((¬ r301 = 0 → (bk_LW_law_901 rc_23 L xs x293 x294 x295 x296 h310)) ∧ (r301 = 0 → (ah_T h310 x295 = 110 ∧ vp_in (0 : Int32) (ah_N h310 x295) ∧ ((ah_bL h310 x295 (0 : Int32).toNatClampNeg) = r307.toInt64 → (bk_LW_law_901 rc_23 L xs x293 x294 x295 x296 h310)) ∧ (¬ (ah_bL h310 x295 (0 : Int32).toNatClampNeg) = r307.toInt64 → (False)))))) ∧ (¬ r311 = r301 → (False)))))
def bk_LW_law_1000 (rc_23 : Nat → Nat → Nat → Int32 → ah_H → Prop) (L : Nat) (xs : Nat → Int32) (x349 : Nat) (x350 : Nat) (x351 : Nat) (x352 : Int32) (h353 : ah_H) : Prop :=
  bk_LW_law_1523 rc_23 L xs x349 x350 x351 x352 h353
def bk_LW_law_904 (rc_23 : Nat → Nat → Nat → Int32 → ah_H → Prop) (L : Nat) (xs : Nat → Int32) (x324 : Nat) (x325 : Nat) (x326 : Nat) (x327 : Int32) (h328 : ah_H) : Prop :=
  vp_in (x327 + (1 : Int32)) L ∧ vp_in (x327 + (2 : Int32)) L ∧ vp_in (x327 + (3 : Int32)) L ∧ w_LW_rest x324 (xs (x327 + (1 : Int32)).toNatClampNeg) ((((xs (x327 + (2 : Int32)).toNatClampNeg).toInt64) <<< ((32 : Int32).toInt64 &&& 63)) ||| (((xs (x327 + (3 : Int32)).toNatClampNeg).toInt64) &&& (4294967295 : Int64))) x326 h328 (fun r333 h332 => ah_m h328 h332 → vp_in (x327 + (1 : Int32)) L ∧ vp_in (x327 + (2 : Int32)) L ∧ vp_in (x327 + (3 : Int32)) L ∧ ah_T h332 x325 = 5 ∧ w_MO_rest x325 (xs (x327 + (1 : Int32)).toNatClampNeg) ((((xs (x327 + (2 : Int32)).toNatClampNeg).toInt64) <<< ((32 : Int32).toInt64 &&& 63)) ||| (((xs (x327 + (3 : Int32)).toNatClampNeg).toInt64) &&& (4294967295 : Int64))) h332 (fun r340 h339 => ah_m h332 h339 → w_MO_thrown x325 h339 (fun r344 h343 => ah_m h339 h343 → (r344 = r333 → ((¬ r333 = 0 → (bk_LW_law_1000 rc_23 L xs x324 x325 x326 x327 h343)) ∧ (r333 = 0 → (ah_T h343 x326 = 110 ∧ vp_in (0 : Int32) (ah_N h343 x326) ∧ ((ah_bL h343 x326 (0 : Int32).toNatClampNeg) = r340 → (bk_LW_law_1000 rc_23 L xs x324 x325 x326 x327 h343)) ∧ (¬ (ah_bL h343 x326 (0 : Int32).toNatClampNeg) = r340 → (False)))))) ∧ (¬ r344 = r333 → (False)))))
def bk_LW_law_1055 (rc_23 : Nat → Nat → Nat → Int32 → ah_H → Prop) (L : Nat) (xs : Nat → Int32) (x378 : Nat) (x379 : Nat) (x380 : Nat) (x381 : Int32) (h382 : ah_H) : Prop :=
  bk_LW_law_1523 rc_23 L xs x378 x379 x380 x381 h382
def bk_LW_law_1003 (rc_23 : Nat → Nat → Nat → Int32 → ah_H → Prop) (L : Nat) (xs : Nat → Int32) (x357 : Nat) (x358 : Nat) (x359 : Nat) (x360 : Int32) (h361 : ah_H) : Prop :=
  vp_in (x360 + (1 : Int32)) L ∧ w_LW_value x357 (xs (x360 + (1 : Int32)).toNatClampNeg) x359 h361 (fun r364 h363 => ah_m h361 h363 → vp_in (x360 + (1 : Int32)) L ∧ ah_T h363 x358 = 5 ∧ w_MO_value x358 (xs (x360 + (1 : Int32)).toNatClampNeg) h363 (fun r369 h368 => ah_m h363 h368 → w_MO_thrown x358 h368 (fun r373 h372 => ah_m h368 h372 → (r373 = r364 → ((¬ r364 = 0 → (bk_LW_law_1055 rc_23 L xs x357 x358 x359 x360 h372)) ∧ (r364 = 0 → (ah_T h372 x359 = 110 ∧ vp_in (0 : Int32) (ah_N h372 x359) ∧ ((ah_bL h372 x359 (0 : Int32).toNatClampNeg) = r369 → (bk_LW_law_1055 rc_23 L xs x357 x358 x359 x360 h372)) ∧ (¬ (ah_bL h372 x359 (0 : Int32).toNatClampNeg) = r369 → (False)))))) ∧ (¬ r373 = r364 → (False)))))
def bk_LW_law_1122 (rc_23 : Nat → Nat → Nat → Int32 → ah_H → Prop) (L : Nat) (xs : Nat → Int32) (x409 : Nat) (x410 : Nat) (x411 : Nat) (x412 : Int32) (h413 : ah_H) : Prop :=
  bk_LW_law_1523 rc_23 L xs x409 x410 x411 x412 h413
def bk_LW_law_1058 (rc_23 : Nat → Nat → Nat → Int32 → ah_H → Prop) (L : Nat) (xs : Nat → Int32) (x386 : Nat) (x387 : Nat) (x388 : Nat) (x389 : Int32) (h390 : ah_H) : Prop :=
  vp_in (x389 + (1 : Int32)) L ∧ vp_in (x389 + (2 : Int32)) L ∧ w_LW_limb x386 (xs (x389 + (1 : Int32)).toNatClampNeg) (xs (x389 + (2 : Int32)).toNatClampNeg) x388 h390 (fun r394 h393 => ah_m h390 h393 → vp_in (x389 + (1 : Int32)) L ∧ vp_in (x389 + (2 : Int32)) L ∧ ah_T h393 x387 = 5 ∧ w_MO_limb x387 (xs (x389 + (1 : Int32)).toNatClampNeg) (xs (x389 + (2 : Int32)).toNatClampNeg) h393 (fun r400 h399 => ah_m h393 h399 → w_MO_thrown x387 h399 (fun r404 h403 => ah_m h399 h403 → (r404 = r394 → ((¬ r394 = 0 → (bk_LW_law_1122 rc_23 L xs x386 x387 x388 x389 h403)) ∧ (r394 = 0 → (ah_T h403 x388 = 110 ∧ vp_in (0 : Int32) (ah_N h403 x388) ∧ ((ah_bL h403 x388 (0 : Int32).toNatClampNeg) = r400 → (bk_LW_law_1122 rc_23 L xs x386 x387 x388 x389 h403)) ∧ (¬ (ah_bL h403 x388 (0 : Int32).toNatClampNeg) = r400 → (False)))))) ∧ (¬ r404 = r394 → (False)))))
def bk_LW_law_1190 (rc_23 : Nat → Nat → Nat → Int32 → ah_H → Prop) (L : Nat) (xs : Nat → Int32) (x440 : Nat) (x441 : Nat) (x442 : Nat) (x443 : Int32) (h444 : ah_H) : Prop :=
  bk_LW_law_1523 rc_23 L xs x440 x441 x442 x443 h444
def bk_LW_law_1125 (rc_23 : Nat → Nat → Nat → Int32 → ah_H → Prop) (L : Nat) (xs : Nat → Int32) (x417 : Nat) (x418 : Nat) (x419 : Nat) (x420 : Int32) (h421 : ah_H) : Prop :=
  vp_in (x420 + (1 : Int32)) L ∧ vp_in (x420 + (2 : Int32)) L ∧ w_LW_look x417 (xs (x420 + (1 : Int32)).toNatClampNeg) (xs (x420 + (2 : Int32)).toNatClampNeg) x419 h421 (fun r425 h424 => ah_m h421 h424 → vp_in (x420 + (1 : Int32)) L ∧ vp_in (x420 + (2 : Int32)) L ∧ ah_T h424 x418 = 5 ∧ w_MO_look x418 (xs (x420 + (1 : Int32)).toNatClampNeg) (xs (x420 + (2 : Int32)).toNatClampNeg) h424 (fun r431 h430 => ah_m h424 h430 → w_MO_thrown x418 h430 (fun r435 h434 => ah_m h430 h434 → (r435 = r425 → ((¬ r425 = 0 → (bk_LW_law_1190 rc_23 L xs x417 x418 x419 x420 h434)) ∧ (r425 = 0 → (ah_T h434 x419 = 110 ∧ vp_in (0 : Int32) (ah_N h434 x419) ∧ ((ah_bL h434 x419 (0 : Int32).toNatClampNeg) = r431.toInt64 → (bk_LW_law_1190 rc_23 L xs x417 x418 x419 x420 h434)) ∧ (¬ (ah_bL h434 x419 (0 : Int32).toNatClampNeg) = r431.toInt64 → (False)))))) ∧ (¬ r435 = r425 → (False)))))
def bk_LW_law_1290 (rc_23 : Nat → Nat → Nat → Int32 → ah_H → Prop) (L : Nat) (xs : Nat → Int32) (x473 : Nat) (x474 : Nat) (x475 : Nat) (x476 : Int32) (h477 : ah_H) : Prop :=
  bk_LW_law_1523 rc_23 L xs x473 x474 x475 x476 h477
def bk_LW_law_1193 (rc_23 : Nat → Nat → Nat → Int32 → ah_H → Prop) (L : Nat) (xs : Nat → Int32) (x448 : Nat) (x449 : Nat) (x450 : Nat) (x451 : Int32) (h452 : ah_H) : Prop :=
  vp_in (x451 + (1 : Int32)) L ∧ vp_in (x451 + (2 : Int32)) L ∧ vp_in (x451 + (3 : Int32)) L ∧ w_LW_feed x448 (xs (x451 + (1 : Int32)).toNatClampNeg) ((((xs (x451 + (2 : Int32)).toNatClampNeg).toInt64) <<< ((32 : Int32).toInt64 &&& 63)) ||| (((xs (x451 + (3 : Int32)).toNatClampNeg).toInt64) &&& (4294967295 : Int64))) x450 h452 (fun r457 h456 => ah_m h452 h456 → vp_in (x451 + (1 : Int32)) L ∧ vp_in (x451 + (2 : Int32)) L ∧ vp_in (x451 + (3 : Int32)) L ∧ ah_T h456 x449 = 5 ∧ w_MO_feed x449 (xs (x451 + (1 : Int32)).toNatClampNeg) ((((xs (x451 + (2 : Int32)).toNatClampNeg).toInt64) <<< ((32 : Int32).toInt64 &&& 63)) ||| (((xs (x451 + (3 : Int32)).toNatClampNeg).toInt64) &&& (4294967295 : Int64))) h456 (fun r464 h463 => ah_m h456 h463 → w_MO_thrown x449 h463 (fun r468 h467 => ah_m h463 h467 → (r468 = r457 → ((¬ r457 = 0 → (bk_LW_law_1290 rc_23 L xs x448 x449 x450 x451 h467)) ∧ (r457 = 0 → (ah_T h467 x450 = 110 ∧ vp_in (0 : Int32) (ah_N h467 x450) ∧ ((ah_bL h467 x450 (0 : Int32).toNatClampNeg) = r464.toInt64 → (bk_LW_law_1290 rc_23 L xs x448 x449 x450 x451 h467)) ∧ (¬ (ah_bL h467 x450 (0 : Int32).toNatClampNeg) = r464.toInt64 → (False)))))) ∧ (¬ r468 = r457 → (False)))))
def bk_LW_law_1353 (rc_23 : Nat → Nat → Nat → Int32 → ah_H → Prop) (L : Nat) (xs : Nat → Int32) (x502 : Nat) (x503 : Nat) (x504 : Nat) (x505 : Int32) (h506 : ah_H) : Prop :=
  bk_LW_law_1523 rc_23 L xs x502 x503 x504 x505 h506
def bk_LW_law_1347 (rc_23 : Nat → Nat → Nat → Int32 → ah_H → Prop) (L : Nat) (xs : Nat → Int32) (x510 : Nat) (x511 : Nat) (x512 : Nat) (x513 : Int32) (s514 : Int64) (s515 : Int64) (h516 : ah_H) : Prop :=
  (s515 = s514 → (bk_LW_law_1353 rc_23 L xs x510 x511 x512 x513 h516)) ∧ (¬ s515 = s514 → (False))
def bk_LW_law_1293 (rc_23 : Nat → Nat → Nat → Int32 → ah_H → Prop) (L : Nat) (xs : Nat → Int32) (x481 : Nat) (x482 : Nat) (x483 : Nat) (x484 : Int32) (h485 : ah_H) : Prop :=
  vp_in (x484 + (1 : Int32)) L ∧ w_LW_read x481 (xs (x484 + (1 : Int32)).toNatClampNeg) x483 h485 (fun r488 h487 => ah_m h485 h487 → vp_in (x484 + (1 : Int32)) L ∧ ah_T h487 x482 = 5 ∧ w_MO_read x482 (xs (x484 + (1 : Int32)).toNatClampNeg) h487 (fun r493 h492 => ah_m h487 h492 → w_MO_thrown x482 h492 (fun r497 h496 => ah_m h492 h496 → (r497 = r488 → ((¬ r488 = 0 → (bk_LW_law_1353 rc_23 L xs x481 x482 x483 x484 h496)) ∧ (r488 = 0 → (ah_T h496 x483 = 110 ∧ vp_in (0 : Int32) (ah_N h496 x483) ∧ (r493 = 0 → (bk_LW_law_1347 rc_23 L xs x481 x482 x483 x484 (0 : Int64) (ah_bL h496 x483 (0 : Int32).toNatClampNeg) h496)) ∧ (¬ r493 = 0 → (bk_LW_law_1347 rc_23 L xs x481 x482 x483 x484 (1 : Int64) (ah_bL h496 x483 (0 : Int32).toNatClampNeg) h496)))))) ∧ (¬ r497 = r488 → (False)))))
def bk_LW_law_1409 (rc_23 : Nat → Nat → Nat → Int32 → ah_H → Prop) (L : Nat) (xs : Nat → Int32) (x539 : Nat) (x540 : Nat) (x541 : Nat) (x542 : Int32) (h543 : ah_H) : Prop :=
  bk_LW_law_1523 rc_23 L xs x539 x540 x541 x542 h543
def bk_LW_law_1356 (rc_23 : Nat → Nat → Nat → Int32 → ah_H → Prop) (L : Nat) (xs : Nat → Int32) (x518 : Nat) (x519 : Nat) (x520 : Nat) (x521 : Int32) (h522 : ah_H) : Prop :=
  vp_in (x521 + (1 : Int32)) L ∧ w_LW_write x518 (xs (x521 + (1 : Int32)).toNatClampNeg) x520 h522 (fun r525 h524 => ah_m h522 h524 → vp_in (x521 + (1 : Int32)) L ∧ ah_T h524 x519 = 5 ∧ w_MO_write x519 (xs (x521 + (1 : Int32)).toNatClampNeg) h524 (fun r530 h529 => ah_m h524 h529 → w_MO_thrown x519 h529 (fun r534 h533 => ah_m h529 h533 → (r534 = r525 → ((¬ r525 = 0 → (bk_LW_law_1409 rc_23 L xs x518 x519 x520 x521 h533)) ∧ (r525 = 0 → (ah_T h533 x520 = 110 ∧ vp_in (0 : Int32) (ah_N h533 x520) ∧ ((ah_bL h533 x520 (0 : Int32).toNatClampNeg) = r530.toInt64 → (bk_LW_law_1409 rc_23 L xs x518 x519 x520 x521 h533)) ∧ (¬ (ah_bL h533 x520 (0 : Int32).toNatClampNeg) = r530.toInt64 → (False)))))) ∧ (¬ r534 = r525 → (False)))))
def bk_LW_law_1464 (rc_23 : Nat → Nat → Nat → Int32 → ah_H → Prop) (L : Nat) (xs : Nat → Int32) (x568 : Nat) (x569 : Nat) (x570 : Nat) (x571 : Int32) (h572 : ah_H) : Prop :=
  bk_LW_law_1523 rc_23 L xs x568 x569 x570 x571 h572
def bk_LW_law_1412 (rc_23 : Nat → Nat → Nat → Int32 → ah_H → Prop) (L : Nat) (xs : Nat → Int32) (x547 : Nat) (x548 : Nat) (x549 : Nat) (x550 : Int32) (h551 : ah_H) : Prop :=
  vp_in (x550 + (1 : Int32)) L ∧ w_LW_out x547 (xs (x550 + (1 : Int32)).toNatClampNeg) x549 h551 (fun r554 h553 => ah_m h551 h553 → vp_in (x550 + (1 : Int32)) L ∧ ah_T h553 x548 = 5 ∧ w_MO_out x548 (xs (x550 + (1 : Int32)).toNatClampNeg) h553 (fun r559 h558 => ah_m h553 h558 → w_MO_thrown x548 h558 (fun r563 h562 => ah_m h558 h562 → (r563 = r554 → ((¬ r554 = 0 → (bk_LW_law_1464 rc_23 L xs x547 x548 x549 x550 h562)) ∧ (r554 = 0 → (ah_T h562 x549 = 110 ∧ vp_in (0 : Int32) (ah_N h562 x549) ∧ ((ah_bL h562 x549 (0 : Int32).toNatClampNeg) = r559 → (bk_LW_law_1464 rc_23 L xs x547 x548 x549 x550 h562)) ∧ (¬ (ah_bL h562 x549 (0 : Int32).toNatClampNeg) = r559 → (False)))))) ∧ (¬ r563 = r554 → (False)))))
def bk_LW_law_1520 (rc_23 : Nat → Nat → Nat → Int32 → ah_H → Prop) (L : Nat) (xs : Nat → Int32) (x597 : Nat) (x598 : Nat) (x599 : Nat) (x600 : Int32) (h601 : ah_H) : Prop :=
  bk_LW_law_1523 rc_23 L xs x597 x598 x599 x600 h601
def bk_LW_law_1467 (rc_23 : Nat → Nat → Nat → Int32 → ah_H → Prop) (L : Nat) (xs : Nat → Int32) (x576 : Nat) (x577 : Nat) (x578 : Nat) (x579 : Int32) (h580 : ah_H) : Prop :=
  vp_in (x579 + (1 : Int32)) L ∧ w_LW_text x576 (xs (x579 + (1 : Int32)).toNatClampNeg) x578 h580 (fun r583 h582 => ah_m h580 h582 → vp_in (x579 + (1 : Int32)) L ∧ ah_T h582 x577 = 5 ∧ w_MO_text x577 (xs (x579 + (1 : Int32)).toNatClampNeg) h582 (fun r588 h587 => ah_m h582 h587 → w_MO_thrown x577 h587 (fun r592 h591 => ah_m h587 h591 → (r592 = r583 → ((¬ r583 = 0 → (bk_LW_law_1520 rc_23 L xs x576 x577 x578 x579 h591)) ∧ (r583 = 0 → (ah_T h591 x578 = 110 ∧ vp_in (0 : Int32) (ah_N h591 x578) ∧ ((ah_bL h591 x578 (0 : Int32).toNatClampNeg) = r588.toInt64 → (bk_LW_law_1520 rc_23 L xs x576 x577 x578 x579 h591)) ∧ (¬ (ah_bL h591 x578 (0 : Int32).toNatClampNeg) = r588.toInt64 → (False)))))) ∧ (¬ r592 = r583 → (False)))))
def lp_LW_law_23 (xt_1529 : ah_H → Prop) (L : Nat) (xs : Nat → Int32) : Nat → Nat → Nat → Nat → Int32 → ah_H → Prop
  | 0, _, _, _, _, _ => False
  | n + 1, x26, x27, x28, x29, h30 =>
    (((nI L) - (5 : Int32)) < x29 → (xt_1529 h30)) ∧ (¬ ((nI L) - (5 : Int32)) < x29 → (vp_in x29 L ∧ (((xs x29.toNatClampNeg) &&& (31 : Int32)).toInt < 0 ∨ 20 < ((xs x29.toNatClampNeg) &&& (31 : Int32)).toInt → (bk_LW_law_1523 (lp_LW_law_23 xt_1529 L xs n) L xs x26 x27 x28 x29 h30)) ∧ (((xs x29.toNatClampNeg) &&& (31 : Int32)).toInt = 0 → (bk_LW_law_136 (lp_LW_law_23 xt_1529 L xs n) L xs x26 x27 x28 x29 h30)) ∧ (((xs x29.toNatClampNeg) &&& (31 : Int32)).toInt = 1 → (bk_LW_law_216 (lp_LW_law_23 xt_1529 L xs n) L xs x26 x27 x28 x29 h30)) ∧ (((xs x29.toNatClampNeg) &&& (31 : Int32)).toInt = 2 → (bk_LW_law_264 (lp_LW_law_23 xt_1529 L xs n) L xs x26 x27 x28 x29 h30)) ∧ (((xs x29.toNatClampNeg) &&& (31 : Int32)).toInt = 3 → (bk_LW_law_324 (lp_LW_law_23 xt_1529 L xs n) L xs x26 x27 x28 x29 h30)) ∧ (((xs x29.toNatClampNeg) &&& (31 : Int32)).toInt = 4 → (bk_LW_law_384 (lp_LW_law_23 xt_1529 L xs n) L xs x26 x27 x28 x29 h30)) ∧ (((xs x29.toNatClampNeg) &&& (31 : Int32)).toInt = 5 → (bk_LW_law_444 (lp_LW_law_23 xt_1529 L xs n) L xs x26 x27 x28 x29 h30)) ∧ (((xs x29.toNatClampNeg) &&& (31 : Int32)).toInt = 6 → (bk_LW_law_536 (lp_LW_law_23 xt_1529 L xs n) L xs x26 x27 x28 x29 h30)) ∧ (((xs x29.toNatClampNeg) &&& (31 : Int32)).toInt = 7 → (bk_LW_law_596 (lp_LW_law_23 xt_1529 L xs n) L xs x26 x27 x28 x29 h30)) ∧ (((xs x29.toNatClampNeg) &&& (31 : Int32)).toInt = 8 → (bk_LW_law_656 (lp_LW_law_23 xt_1529 L xs n) L xs x26 x27 x28 x29 h30)) ∧ (((xs x29.toNatClampNeg) &&& (31 : Int32)).toInt = 9 → (bk_LW_law_728 (lp_LW_law_23 xt_1529 L xs n) L xs x26 x27 x28 x29 h30)) ∧ (((xs x29.toNatClampNeg) &&& (31 : Int32)).toInt = 10 → (bk_LW_law_788 (lp_LW_law_23 xt_1529 L xs n) L xs x26 x27 x28 x29 h30)) ∧ (((xs x29.toNatClampNeg) &&& (31 : Int32)).toInt = 11 → (bk_LW_law_836 (lp_LW_law_23 xt_1529 L xs n) L xs x26 x27 x28 x29 h30)) ∧ (((xs x29.toNatClampNeg) &&& (31 : Int32)).toInt = 12 → (bk_LW_law_904 (lp_LW_law_23 xt_1529 L xs n) L xs x26 x27 x28 x29 h30)) ∧ (((xs x29.toNatClampNeg) &&& (31 : Int32)).toInt = 13 → (bk_LW_law_1003 (lp_LW_law_23 xt_1529 L xs n) L xs x26 x27 x28 x29 h30)) ∧ (((xs x29.toNatClampNeg) &&& (31 : Int32)).toInt = 14 → (bk_LW_law_1058 (lp_LW_law_23 xt_1529 L xs n) L xs x26 x27 x28 x29 h30)) ∧ (((xs x29.toNatClampNeg) &&& (31 : Int32)).toInt = 15 → (bk_LW_law_1125 (lp_LW_law_23 xt_1529 L xs n) L xs x26 x27 x28 x29 h30)) ∧ (((xs x29.toNatClampNeg) &&& (31 : Int32)).toInt = 16 → (bk_LW_law_1193 (lp_LW_law_23 xt_1529 L xs n) L xs x26 x27 x28 x29 h30)) ∧ (((xs x29.toNatClampNeg) &&& (31 : Int32)).toInt = 17 → (bk_LW_law_1293 (lp_LW_law_23 xt_1529 L xs n) L xs x26 x27 x28 x29 h30)) ∧ (((xs x29.toNatClampNeg) &&& (31 : Int32)).toInt = 18 → (bk_LW_law_1356 (lp_LW_law_23 xt_1529 L xs n) L xs x26 x27 x28 x29 h30)) ∧ (((xs x29.toNatClampNeg) &&& (31 : Int32)).toInt = 19 → (bk_LW_law_1412 (lp_LW_law_23 xt_1529 L xs n) L xs x26 x27 x28 x29 h30)) ∧ (((xs x29.toNatClampNeg) &&& (31 : Int32)).toInt = 20 → (bk_LW_law_1467 (lp_LW_law_23 xt_1529 L xs n) L xs x26 x27 x28 x29 h30))))
def w_LW_law (L : Nat) (xs : Nat → Int32) (h0 : ah_H) : Prop :=
  ∀ q1 : Nat, ah_T h0 q1 = 0 → ∀ h3 : ah_H, h3 = ah_new h0 q1 4 0 → w_BD_init q1 h3 (fun h6 => ah_m h3 h6 → ∀ q9 : Nat, ah_T h6 q9 = 0 → ∀ h11 : ah_H, h11 = ah_new h6 q9 5 0 → w_MO_init q9 h11 (fun h15 => ah_m h11 h15 → ∀ q19 : Nat, ah_T h15 q19 = 0 → ∀ h21 : ah_H, h21 = ah_new h15 q19 110 1 → ∃ k606, k606 ≤ 600 ∧ lp_LW_law_23 (fun  h605 => True) L xs k606 q1 q9 q19 (0 : Int32) h21))
set_option maxHeartbeats 4000000 in
set_option maxRecDepth 100000 in
theorem tb_LW_law_1523 {p : Program} {l : Launch} {e : Env} {s : State} {m : MethodId} {below : List Frame} {meth : Method} {c : Code} {G : zG} {b L : Nat} {xs : Nat → Int32} (C : cx_C p l s m #[Value.ref b] meth c G x code 8 ret "BigDeskLaw" lw_tbl []) (S : va_X b L xs s s.heap ∧ b < s.heap.size ∧ G.2.2 = s.heap.size) {h0 : ah_H} {cells slots n9 : Nat} (hcl : cells + 0 + 10 * n9 ≤ 601024) (hsl : slots + 0 + 60 * n9 ≤ 7293033) {rc_23 : Nat → Nat → Nat → Int32 → ah_H → Prop} (hc_rc_23 : ∀ (cells slots : Nat), cells + 10 * n9 ≤ 601024 → slots + 60 * n9 ≤ 7293033 → ∀ (z0 : Nat) (z1 : Nat) (z2 : Nat) (z3 : Int32) (hz : ah_H) (H : Heap) (locs : List Loc) (ls : Array Slot), rc_23 z0 z1 z2 z3 hz → ah_m h0 hz → ah_W G s.heap hz H locs → lv_has ls 8 [(0, .ref b), (1, .ref z0), (2, .ref z1), (3, .ref z2), (4, .int z3)] → W p l e room_1 s m #[Value.ref b] below meth c H locs cells slots (lw_Z below #[Value.ref b] s) (F0 m 23 ls [])) (x34 : Nat) (x35 : Nat) (x36 : Nat) (x37 : Int32) (h38 : ah_H) (H : Heap) (locs : List Loc) (ls : Array Slot) (w : bk_LW_law_1523 rc_23 L xs x34 x35 x36 x37 h38) (hm : ah_m h0 h38) (hW : ah_W G s.heap h38 H locs) (hl : lv_has ls 8 [(0, .ref b), (1, .ref x34), (2, .ref x35), (3, .ref x36), (4, .int x37)]) : W p l e room_1 s m #[Value.ref b] below meth c H locs cells slots (lw_Z below #[Value.ref b] s) (F0 m 1523 ls []) := by
  unfold bk_LW_law_1523 at w
  obtain ⟨hx, hb, hr, hml, hown, hts, hT, hlk, hK, hX, htb, hin, hst⟩ := id C
  have hw : ∀ {w9 : Cond}, w9 ∈ zx_T → w9.before _ s = true := fun h9 => hts _ (hT _ h9)
  obtain ⟨v39, ev39⟩ : ∃ y9 : Int32, y9 = x37 + 5 := ⟨_, rfl⟩
  have w := w v39 ev39
  refine lv_iinc (v := v39) (lv' := [(4, .int v39), (0, .ref b), (1, .ref x34), (2, .ref x35), (3, .ref x36)]) hx hb d_LW_law_1523 hl (k := 4) rfl (by rw [ev39]; rfl) (by decide) rfl (fun ls hl => ?_)
  refine lv_goto (tgt := 23) hx hb d_LW_law_1526 (by decide) ?_
  exact hc_rc_23 _ _ (by omega) (by omega) x34 x35 x36 v39 h38 _ _ _ w hm hW (lv_sub hl [1, 2, 3, 4, 0] rfl)
set_option maxHeartbeats 4000000 in
set_option maxRecDepth 100000 in
theorem tb_LW_law_136 {p : Program} {l : Launch} {e : Env} {s : State} {m : MethodId} {below : List Frame} {meth : Method} {c : Code} {G : zG} {b L : Nat} {xs : Nat → Int32} (C : cx_C p l s m #[Value.ref b] meth c G x code 8 ret "BigDeskLaw" lw_tbl []) (S : va_X b L xs s s.heap ∧ b < s.heap.size ∧ G.2.2 = s.heap.size) {h0 : ah_H} {cells slots n9 : Nat} (hcl : cells + 1 + 10 * n9 ≤ 601024) (hsl : slots + 6 + 60 * n9 ≤ 7293033) {rc_23 : Nat → Nat → Nat → Int32 → ah_H → Prop} (hc_rc_23 : ∀ (cells slots : Nat), cells + 10 * n9 ≤ 601024 → slots + 60 * n9 ≤ 7293033 → ∀ (z0 : Nat) (z1 : Nat) (z2 : Nat) (z3 : Int32) (hz : ah_H) (H : Heap) (locs : List Loc) (ls : Array Slot), rc_23 z0 z1 z2 z3 hz → ah_m h0 hz → ah_W G s.heap hz H locs → lv_has ls 8 [(0, .ref b), (1, .ref z0), (2, .ref z1), (3, .ref z2), (4, .int z3)] → W p l e room_1 s m #[Value.ref b] below meth c H locs cells slots (lw_Z below #[Value.ref b] s) (F0 m 23 ls [])) (x40 : Nat) (x41 : Nat) (x42 : Nat) (x43 : Int32) (h44 : ah_H) (H : Heap) (locs : List Loc) (ls : Array Slot) (w : bk_LW_law_136 rc_23 L xs x40 x41 x42 x43 h44) (hm : ah_m h0 h44) (hW : ah_W G s.heap h44 H locs) (hl : lv_has ls 8 [(0, .ref b), (1, .ref x40), (2, .ref x41), (3, .ref x42), (4, .int x43)]) : W p l e room_1 s m #[Value.ref b] below meth c H locs cells slots (lw_Z below #[Value.ref b] s) (F0 m 136 ls []) := by
  unfold bk_LW_law_136 at w
  obtain ⟨hx, hb, hr, hml, hown, hts, hT, hlk, hK, hX, htb, hin, hst⟩ := id C
  have hw : ∀ {w9 : Cond}, w9 ∈ zx_T → w9.before _ s = true := fun h9 => hts _ (hT _ h9)
  refine lv_aload_n hx hb d_LW_law_136 rfl (lv_at hl 1 rfl) ?_
  refine lv_aload_n hx hb d_LW_law_137 rfl (lv_at hl 0 rfl) ?_
  refine lv_iload hx hb d_LW_law_138 (lv_at hl 4 rfl) ?_
  refine lv_iconst (v := 1) hx hb d_LW_law_140 (by decide) ?_
  refine lv_iadd hx hb d_LW_law_141 ?_
  obtain ⟨i45, w⟩ := w
  refine va_sld hx hb S.1 S.2.1 (by rw [S.2.2]; exact Nat.not_le.mpr S.2.1) hW.2.2 i45 d_LW_law_142 ?_
  refine lv_aload_n hx hb d_LW_law_143 rfl (lv_at hl 0 rfl) ?_
  refine lv_iload hx hb d_LW_law_144 (lv_at hl 4 rfl) ?_
  refine lv_iconst (v := 2) hx hb d_LW_law_146 (by decide) ?_
  refine lv_iadd hx hb d_LW_law_147 ?_
  obtain ⟨i46, w⟩ := w
  refine va_sld hx hb S.1 S.2.1 (by rw [S.2.2]; exact Nat.not_le.mpr S.2.1) hW.2.2 i46 d_LW_law_148 ?_
  refine lv_i2l hx hb d_LW_law_149 rfl ?_
  refine lv_bipush (v := 32) hx hb d_LW_law_150 (by decide) ?_
  refine lv_lshl hx hb d_LW_law_152 rfl ?_
  refine lv_aload_n hx hb d_LW_law_153 rfl (lv_at hl 0 rfl) ?_
  refine lv_iload hx hb d_LW_law_154 (lv_at hl 4 rfl) ?_
  refine lv_iconst (v := 3) hx hb d_LW_law_156 (by decide) ?_
  refine lv_iadd hx hb d_LW_law_157 ?_
  obtain ⟨i47, w⟩ := w
  refine va_sld hx hb S.1 S.2.1 (by rw [S.2.2]; exact Nat.not_le.mpr S.2.1) hW.2.2 i47 d_LW_law_158 ?_
  refine lv_i2l hx hb d_LW_law_159 rfl ?_
  refine lv_ldc2 (v := 4294967295) hx hb hown (hw wd_845) d_LW_law_160 ?_
  refine lv_land hx hb d_LW_law_163 ?_
  refine lv_lor hx hb d_LW_law_164 ?_
  refine hb_calli (vx_runSW (As := [.ref x40, .int (xs (x43 + (1 : Int32)).toNatClampNeg), .long ((((xs (x43 + (2 : Int32)).toNatClampNeg).toInt64) <<< ((32 : Int32).toInt64 &&& 63)) ||| (((xs (x43 + (3 : Int32)).toNatClampNeg).toInt64) &&& (4294967295 : Int64)))]) (rest := []) ⟨hx, hb, hml, hown, hts⟩ (m_LW_set G x40 (xs (x43 + (1 : Int32)).toNatClampNeg) ((((xs (x43 + (2 : Int32)).toNatClampNeg).toInt64) <<< ((32 : Int32).toInt64 &&& 63)) ||| (((xs (x43 + (3 : Int32)).toNatClampNeg).toInt64) &&& (4294967295 : Int64))) h44 hst w) (vx_cwSW 3 hts (zx_gS hT wd_133 wd_134 wd_0 wd_135) rfl rfl rfl (by decide +kernel) ⟨Nat.le_of_ble_eq_true rfl, Nat.le_of_ble_eq_true rfl⟩) (hb_preS hK hX hW) rfl rfl hl.1 rfl (lv_room (Nat.le_of_ble_eq_true rfl)) d_LW_law_165 ⟨(by show _ ≤ 601024; omega), (by show _ ≤ 7293033; omega)⟩) hW (fun r49 h48 H locs hk hW => ?_)
  obtain ⟨w, mm50⟩ := hk
  have w := w mm50
  have hm := hm.tr mm50
  refine lv_istore (lv' := [(5, .int r49), (0, .ref b), (1, .ref x40), (2, .ref x41), (3, .ref x42), (4, .int x43)]) hx hb d_LW_law_168 hl (by decide) rfl (fun ls hl => ?_)
  refine lv_aload_n hx hb d_LW_law_170 rfl (lv_at hl 3 rfl) ?_
  refine lv_aload_n hx hb d_LW_law_171 rfl (lv_at hl 1 rfl) ?_
  refine lv_iload hx hb d_LW_law_172 (lv_at hl 5 rfl) ?_
  refine lv_iconst (v := 1) hx hb d_LW_law_174 (by decide) ?_
  refine lv_iadd hx hb d_LW_law_175 ?_
  obtain ⟨i51, w⟩ := w
  refine va_sld hx hb S.1 S.2.1 (by rw [S.2.2]; exact Nat.not_le.mpr S.2.1) hW.2.2 i51 d_LW_law_176 ?_
  refine lv_aload_n hx hb d_LW_law_177 rfl (lv_at hl 1 rfl) ?_
  refine lv_iload hx hb d_LW_law_178 (lv_at hl 5 rfl) ?_
  refine lv_iconst (v := 2) hx hb d_LW_law_180 (by decide) ?_
  refine lv_iadd hx hb d_LW_law_181 ?_
  obtain ⟨i52, w⟩ := w
  refine va_sld hx hb S.1 S.2.1 (by rw [S.2.2]; exact Nat.not_le.mpr S.2.1) hW.2.2 i52 d_LW_law_182 ?_
  refine lv_i2l hx hb d_LW_law_183 rfl ?_
  refine lv_bipush (v := 32) hx hb d_LW_law_184 (by decide) ?_
  refine lv_lshl hx hb d_LW_law_186 rfl ?_
  refine lv_aload_n hx hb d_LW_law_187 rfl (lv_at hl 1 rfl) ?_
  refine lv_iload hx hb d_LW_law_188 (lv_at hl 5 rfl) ?_
  refine lv_iconst (v := 3) hx hb d_LW_law_190 (by decide) ?_
  refine lv_iadd hx hb d_LW_law_191 ?_
  obtain ⟨i53, w⟩ := w
  refine va_sld hx hb S.1 S.2.1 (by rw [S.2.2]; exact Nat.not_le.mpr S.2.1) hW.2.2 i53 d_LW_law_192 ?_
  refine lv_i2l hx hb d_LW_law_193 rfl ?_
  refine lv_ldc2 (v := 4294967295) hx hb hown (hw wd_845) d_LW_law_194 ?_
  refine lv_land hx hb d_LW_law_197 ?_
  refine lv_lor hx hb d_LW_law_198 ?_
  obtain ⟨t54, w⟩ := w
  refine hb_callv (va_runV (As := [.int (xs (x43 + (1 : Int32)).toNatClampNeg), .long ((((xs (x43 + (2 : Int32)).toNatClampNeg).toInt64) <<< ((32 : Int32).toInt64 &&& 63)) ||| (((xs (x43 + (3 : Int32)).toNatClampNeg).toInt64) &&& (4294967295 : Int64)))]) (rest := []) ⟨hx, hb, hml, hown, hts⟩ (m_MO_set G x41 (xs (x43 + (1 : Int32)).toNatClampNeg) ((((xs (x43 + (2 : Int32)).toNatClampNeg).toInt64) <<< ((32 : Int32).toInt64 &&& 63)) ||| (((xs (x43 + (3 : Int32)).toNatClampNeg).toInt64) &&& (4294967295 : Int64))) h48 hst w) (cwV 2 hts (zx_gV hT wd_676 wd_677 wd_678 wd_5 wd_679) rfl rfl rfl (by decide +kernel) ⟨Nat.le_of_ble_eq_true rfl, Nat.le_of_ble_eq_true rfl⟩) (hb_preV hK hX hW t54 (by decide) rfl) rfl rfl hl.1 rfl (lv_room (Nat.le_of_ble_eq_true rfl)) d_LW_law_199 ⟨(by show _ ≤ 601024; omega), (by show _ ≤ 7293033; omega)⟩) hW (fun h55 H locs hk hW => ?_)
  obtain ⟨w, mm56⟩ := hk
  have w := w mm56
  have hm := hm.tr mm56
  have t57 := mm56.tg t54 (by decide)
  refine lv_aload_n hx hb d_LW_law_202 rfl (lv_at hl 3 rfl) ?_
  refine hb_calli (va_runV (As := []) (rest := []) ⟨hx, hb, hml, hown, hts⟩ (m_MO_thrown G x41 h55 hst w) (cwV 0 hts (zx_gV hT wd_672 wd_673 wd_674 wd_5 wd_675) rfl rfl rfl (by decide +kernel) ⟨Nat.le_of_ble_eq_true rfl, Nat.le_of_ble_eq_true rfl⟩) (hb_preV hK hX hW t57 (by decide) rfl) rfl rfl hl.1 rfl (lv_room (Nat.le_of_ble_eq_true rfl)) d_LW_law_203 ⟨(by show _ ≤ 601024; omega), (by show _ ≤ 7293033; omega)⟩) hW (fun r59 h58 H locs hk hW => ?_)
  obtain ⟨w, mm60⟩ := hk
  have w := w mm60
  have hm := hm.tr mm60
  have t61 := mm60.tg t57 (by decide)
  refine lv_iload hx hb d_LW_law_206 (lv_at hl 0 rfl) ?_
  refine lv_icmp_eq (tgt := 213) hx hb d_LW_law_208 (by decide) (fun c62 => ?_) (fun c62 => ?_)
  · have w := w.1 c62
    refine lv_goto (tgt := 1523) hx hb d_LW_law_213 (by decide) ?_
    exact tb_LW_law_1523 C S (by omega) (by omega) hc_rc_23 x40 x41 x42 x43 h58 _ _ _ w hm hW (lv_sub hl [1, 2, 3, 4, 5] rfl)
  · have w := w.2 c62
    refine lv_iconst (v := 0) hx hb d_LW_law_211 (by decide) ?_
    exact w.elim
set_option maxHeartbeats 4000000 in
set_option maxRecDepth 100000 in
theorem tb_LW_law_216 {p : Program} {l : Launch} {e : Env} {s : State} {m : MethodId} {below : List Frame} {meth : Method} {c : Code} {G : zG} {b L : Nat} {xs : Nat → Int32} (C : cx_C p l s m #[Value.ref b] meth c G x code 8 ret "BigDeskLaw" lw_tbl []) (S : va_X b L xs s s.heap ∧ b < s.heap.size ∧ G.2.2 = s.heap.size) {h0 : ah_H} {cells slots n9 : Nat} (hcl : cells + 2 + 10 * n9 ≤ 601024) (hsl : slots + 12 + 60 * n9 ≤ 7293033) {rc_23 : Nat → Nat → Nat → Int32 → ah_H → Prop} (hc_rc_23 : ∀ (cells slots : Nat), cells + 10 * n9 ≤ 601024 → slots + 60 * n9 ≤ 7293033 → ∀ (z0 : Nat) (z1 : Nat) (z2 : Nat) (z3 : Int32) (hz : ah_H) (H : Heap) (locs : List Loc) (ls : Array Slot), rc_23 z0 z1 z2 z3 hz → ah_m h0 hz → ah_W G s.heap hz H locs → lv_has ls 8 [(0, .ref b), (1, .ref z0), (2, .ref z1), (3, .ref z2), (4, .int z3)] → W p l e room_1 s m #[Value.ref b] below meth c H locs cells slots (lw_Z below #[Value.ref b] s) (F0 m 23 ls [])) (x63 : Nat) (x64 : Nat) (x65 : Nat) (x66 : Int32) (h67 : ah_H) (H : Heap) (locs : List Loc) (ls : Array Slot) (w : bk_LW_law_216 rc_23 L xs x63 x64 x65 x66 h67) (hm : ah_m h0 h67) (hW : ah_W G s.heap h67 H locs) (hl : lv_has ls 8 [(0, .ref b), (1, .ref x63), (2, .ref x64), (3, .ref x65), (4, .int x66)]) : W p l e room_1 s m #[Value.ref b] below meth c H locs cells slots (lw_Z below #[Value.ref b] s) (F0 m 216 ls []) := by
  unfold bk_LW_law_216 at w
  obtain ⟨hx, hb, hr, hml, hown, hts, hT, hlk, hK, hX, htb, hin, hst⟩ := id C
  have hw : ∀ {w9 : Cond}, w9 ∈ zx_T → w9.before _ s = true := fun h9 => hts _ (hT _ h9)
  refine lv_aload_n hx hb d_LW_law_216 rfl (lv_at hl 1 rfl) ?_
  refine lv_aload_n hx hb d_LW_law_217 rfl (lv_at hl 0 rfl) ?_
  refine lv_iload hx hb d_LW_law_218 (lv_at hl 4 rfl) ?_
  refine lv_iconst (v := 1) hx hb d_LW_law_220 (by decide) ?_
  refine lv_iadd hx hb d_LW_law_221 ?_
  obtain ⟨i68, w⟩ := w
  refine va_sld hx hb S.1 S.2.1 (by rw [S.2.2]; exact Nat.not_le.mpr S.2.1) hW.2.2 i68 d_LW_law_222 ?_
  refine lv_aload_n hx hb d_LW_law_223 rfl (lv_at hl 0 rfl) ?_
  refine lv_iload hx hb d_LW_law_224 (lv_at hl 4 rfl) ?_
  refine lv_iconst (v := 2) hx hb d_LW_law_226 (by decide) ?_
  refine lv_iadd hx hb d_LW_law_227 ?_
  obtain ⟨i69, w⟩ := w
  refine va_sld hx hb S.1 S.2.1 (by rw [S.2.2]; exact Nat.not_le.mpr S.2.1) hW.2.2 i69 d_LW_law_228 ?_
  refine hb_calli (vx_runSW (As := [.ref x63, .int (xs (x66 + (1 : Int32)).toNatClampNeg), .int (xs (x66 + (2 : Int32)).toNatClampNeg)]) (rest := []) ⟨hx, hb, hml, hown, hts⟩ (m_LW_copy G x63 (xs (x66 + (1 : Int32)).toNatClampNeg) (xs (x66 + (2 : Int32)).toNatClampNeg) h67 hst w) (vx_cwSW 3 hts (zx_gS hT wd_226 wd_227 wd_0 wd_228) rfl rfl rfl (by decide +kernel) ⟨Nat.le_of_ble_eq_true rfl, Nat.le_of_ble_eq_true rfl⟩) (hb_preS hK hX hW) rfl rfl hl.1 rfl (lv_room (Nat.le_of_ble_eq_true rfl)) d_LW_law_229 ⟨(by show _ ≤ 601024; omega), (by show _ ≤ 7293033; omega)⟩) hW (fun r71 h70 H locs hk hW => ?_)
  obtain ⟨w, mm72⟩ := hk
  have w := w mm72
  have hm := hm.tr mm72
  refine lv_istore (lv' := [(5, .int r71), (0, .ref b), (1, .ref x63), (2, .ref x64), (3, .ref x65), (4, .int x66)]) hx hb d_LW_law_232 hl (by decide) rfl (fun ls hl => ?_)
  refine lv_aload_n hx hb d_LW_law_234 rfl (lv_at hl 3 rfl) ?_
  refine lv_aload_n hx hb d_LW_law_235 rfl (lv_at hl 1 rfl) ?_
  refine lv_iload hx hb d_LW_law_236 (lv_at hl 5 rfl) ?_
  refine lv_iconst (v := 1) hx hb d_LW_law_238 (by decide) ?_
  refine lv_iadd hx hb d_LW_law_239 ?_
  obtain ⟨i73, w⟩ := w
  refine va_sld hx hb S.1 S.2.1 (by rw [S.2.2]; exact Nat.not_le.mpr S.2.1) hW.2.2 i73 d_LW_law_240 ?_
  refine lv_aload_n hx hb d_LW_law_241 rfl (lv_at hl 1 rfl) ?_
  refine lv_iload hx hb d_LW_law_242 (lv_at hl 5 rfl) ?_
  refine lv_iconst (v := 2) hx hb d_LW_law_244 (by decide) ?_
  refine lv_iadd hx hb d_LW_law_245 ?_
  obtain ⟨i74, w⟩ := w
  refine va_sld hx hb S.1 S.2.1 (by rw [S.2.2]; exact Nat.not_le.mpr S.2.1) hW.2.2 i74 d_LW_law_246 ?_
  obtain ⟨t75, w⟩ := w
  refine hb_callv (va_runV (As := [.int (xs (x66 + (1 : Int32)).toNatClampNeg), .int (xs (x66 + (2 : Int32)).toNatClampNeg)]) (rest := []) ⟨hx, hb, hml, hown, hts⟩ (m_MO_copy G x64 (xs (x66 + (1 : Int32)).toNatClampNeg) (xs (x66 + (2 : Int32)).toNatClampNeg) h70 hst w) (cwV 2 hts (zx_gV hT wd_687 wd_688 wd_689 wd_5 wd_690) rfl rfl rfl (by decide +kernel) ⟨Nat.le_of_ble_eq_true rfl, Nat.le_of_ble_eq_true rfl⟩) (hb_preV hK hX hW t75 (by decide) rfl) rfl rfl hl.1 rfl (lv_room (Nat.le_of_ble_eq_true rfl)) d_LW_law_247 ⟨(by show _ ≤ 601024; omega), (by show _ ≤ 7293033; omega)⟩) hW (fun h76 H locs hk hW => ?_)
  obtain ⟨w, mm77⟩ := hk
  have w := w mm77
  have hm := hm.tr mm77
  have t78 := mm77.tg t75 (by decide)
  refine lv_aload_n hx hb d_LW_law_250 rfl (lv_at hl 3 rfl) ?_
  refine hb_calli (va_runV (As := []) (rest := []) ⟨hx, hb, hml, hown, hts⟩ (m_MO_thrown G x64 h76 hst w) (cwV 0 hts (zx_gV hT wd_672 wd_673 wd_674 wd_5 wd_675) rfl rfl rfl (by decide +kernel) ⟨Nat.le_of_ble_eq_true rfl, Nat.le_of_ble_eq_true rfl⟩) (hb_preV hK hX hW t78 (by decide) rfl) rfl rfl hl.1 rfl (lv_room (Nat.le_of_ble_eq_true rfl)) d_LW_law_251 ⟨(by show _ ≤ 601024; omega), (by show _ ≤ 7293033; omega)⟩) hW (fun r80 h79 H locs hk hW => ?_)
  obtain ⟨w, mm81⟩ := hk
  have w := w mm81
  have hm := hm.tr mm81
  have t82 := mm81.tg t78 (by decide)
  refine lv_iload hx hb d_LW_law_254 (lv_at hl 0 rfl) ?_
  refine lv_icmp_eq (tgt := 261) hx hb d_LW_law_256 (by decide) (fun c83 => ?_) (fun c83 => ?_)
  · have w := w.1 c83
    refine lv_goto (tgt := 1523) hx hb d_LW_law_261 (by decide) ?_
    exact tb_LW_law_1523 C S (by omega) (by omega) hc_rc_23 x63 x64 x65 x66 h79 _ _ _ w hm hW (lv_sub hl [1, 2, 3, 4, 5] rfl)
  · have w := w.2 c83
    refine lv_iconst (v := 0) hx hb d_LW_law_259 (by decide) ?_
    exact w.elim
set_option maxHeartbeats 4000000 in
set_option maxRecDepth 100000 in
theorem tb_LW_law_264 {p : Program} {l : Launch} {e : Env} {s : State} {m : MethodId} {below : List Frame} {meth : Method} {c : Code} {G : zG} {b L : Nat} {xs : Nat → Int32} (C : cx_C p l s m #[Value.ref b] meth c G x code 8 ret "BigDeskLaw" lw_tbl []) (S : va_X b L xs s s.heap ∧ b < s.heap.size ∧ G.2.2 = s.heap.size) {h0 : ah_H} {cells slots n9 : Nat} (hcl : cells + 4 + 10 * n9 ≤ 601024) (hsl : slots + 24 + 60 * n9 ≤ 7293033) {rc_23 : Nat → Nat → Nat → Int32 → ah_H → Prop} (hc_rc_23 : ∀ (cells slots : Nat), cells + 10 * n9 ≤ 601024 → slots + 60 * n9 ≤ 7293033 → ∀ (z0 : Nat) (z1 : Nat) (z2 : Nat) (z3 : Int32) (hz : ah_H) (H : Heap) (locs : List Loc) (ls : Array Slot), rc_23 z0 z1 z2 z3 hz → ah_m h0 hz → ah_W G s.heap hz H locs → lv_has ls 8 [(0, .ref b), (1, .ref z0), (2, .ref z1), (3, .ref z2), (4, .int z3)] → W p l e room_1 s m #[Value.ref b] below meth c H locs cells slots (lw_Z below #[Value.ref b] s) (F0 m 23 ls [])) (x84 : Nat) (x85 : Nat) (x86 : Nat) (x87 : Int32) (h88 : ah_H) (H : Heap) (locs : List Loc) (ls : Array Slot) (w : bk_LW_law_264 rc_23 L xs x84 x85 x86 x87 h88) (hm : ah_m h0 h88) (hW : ah_W G s.heap h88 H locs) (hl : lv_has ls 8 [(0, .ref b), (1, .ref x84), (2, .ref x85), (3, .ref x86), (4, .int x87)]) : W p l e room_1 s m #[Value.ref b] below meth c H locs cells slots (lw_Z below #[Value.ref b] s) (F0 m 264 ls []) := by
  unfold bk_LW_law_264 at w
  obtain ⟨hx, hb, hr, hml, hown, hts, hT, hlk, hK, hX, htb, hin, hst⟩ := id C
  have hw : ∀ {w9 : Cond}, w9 ∈ zx_T → w9.before _ s = true := fun h9 => hts _ (hT _ h9)
  refine lv_aload_n hx hb d_LW_law_264 rfl (lv_at hl 1 rfl) ?_
  refine lv_aload_n hx hb d_LW_law_265 rfl (lv_at hl 0 rfl) ?_
  refine lv_iload hx hb d_LW_law_266 (lv_at hl 4 rfl) ?_
  refine lv_iconst (v := 1) hx hb d_LW_law_268 (by decide) ?_
  refine lv_iadd hx hb d_LW_law_269 ?_
  obtain ⟨i89, w⟩ := w
  refine va_sld hx hb S.1 S.2.1 (by rw [S.2.2]; exact Nat.not_le.mpr S.2.1) hW.2.2 i89 d_LW_law_270 ?_
  refine lv_aload_n hx hb d_LW_law_271 rfl (lv_at hl 0 rfl) ?_
  refine lv_iload hx hb d_LW_law_272 (lv_at hl 4 rfl) ?_
  refine lv_iconst (v := 2) hx hb d_LW_law_274 (by decide) ?_
  refine lv_iadd hx hb d_LW_law_275 ?_
  obtain ⟨i90, w⟩ := w
  refine va_sld hx hb S.1 S.2.1 (by rw [S.2.2]; exact Nat.not_le.mpr S.2.1) hW.2.2 i90 d_LW_law_276 ?_
  refine lv_aload_n hx hb d_LW_law_277 rfl (lv_at hl 0 rfl) ?_
  refine lv_iload hx hb d_LW_law_278 (lv_at hl 4 rfl) ?_
  refine lv_iconst (v := 3) hx hb d_LW_law_280 (by decide) ?_
  refine lv_iadd hx hb d_LW_law_281 ?_
  obtain ⟨i91, w⟩ := w
  refine va_sld hx hb S.1 S.2.1 (by rw [S.2.2]; exact Nat.not_le.mpr S.2.1) hW.2.2 i91 d_LW_law_282 ?_
  refine hb_calli (vx_runSW (As := [.ref x84, .int (xs (x87 + (1 : Int32)).toNatClampNeg), .int (xs (x87 + (2 : Int32)).toNatClampNeg), .int (xs (x87 + (3 : Int32)).toNatClampNeg)]) (rest := []) ⟨hx, hb, hml, hown, hts⟩ (m_LW_add G x84 (xs (x87 + (1 : Int32)).toNatClampNeg) (xs (x87 + (2 : Int32)).toNatClampNeg) (xs (x87 + (3 : Int32)).toNatClampNeg) h88 hst w) (vx_cwSW 4 hts (zx_gS hT wd_240 wd_241 wd_0 wd_242) rfl rfl rfl (by decide +kernel) ⟨Nat.le_of_ble_eq_true rfl, Nat.le_of_ble_eq_true rfl⟩) (hb_preS hK hX hW) rfl rfl hl.1 rfl (lv_room (Nat.le_of_ble_eq_true rfl)) d_LW_law_283 ⟨(by show _ ≤ 601024; omega), (by show _ ≤ 7293033; omega)⟩) hW (fun r93 h92 H locs hk hW => ?_)
  obtain ⟨w, mm94⟩ := hk
  have w := w mm94
  have hm := hm.tr mm94
  refine lv_istore (lv' := [(5, .int r93), (0, .ref b), (1, .ref x84), (2, .ref x85), (3, .ref x86), (4, .int x87)]) hx hb d_LW_law_286 hl (by decide) rfl (fun ls hl => ?_)
  refine lv_aload_n hx hb d_LW_law_288 rfl (lv_at hl 3 rfl) ?_
  refine lv_aload_n hx hb d_LW_law_289 rfl (lv_at hl 1 rfl) ?_
  refine lv_iload hx hb d_LW_law_290 (lv_at hl 5 rfl) ?_
  refine lv_iconst (v := 1) hx hb d_LW_law_292 (by decide) ?_
  refine lv_iadd hx hb d_LW_law_293 ?_
  obtain ⟨i95, w⟩ := w
  refine va_sld hx hb S.1 S.2.1 (by rw [S.2.2]; exact Nat.not_le.mpr S.2.1) hW.2.2 i95 d_LW_law_294 ?_
  refine lv_aload_n hx hb d_LW_law_295 rfl (lv_at hl 1 rfl) ?_
  refine lv_iload hx hb d_LW_law_296 (lv_at hl 5 rfl) ?_
  refine lv_iconst (v := 2) hx hb d_LW_law_298 (by decide) ?_
  refine lv_iadd hx hb d_LW_law_299 ?_
  obtain ⟨i96, w⟩ := w
  refine va_sld hx hb S.1 S.2.1 (by rw [S.2.2]; exact Nat.not_le.mpr S.2.1) hW.2.2 i96 d_LW_law_300 ?_
  refine lv_aload_n hx hb d_LW_law_301 rfl (lv_at hl 1 rfl) ?_
  refine lv_iload hx hb d_LW_law_302 (lv_at hl 5 rfl) ?_
  refine lv_iconst (v := 3) hx hb d_LW_law_304 (by decide) ?_
  refine lv_iadd hx hb d_LW_law_305 ?_
  obtain ⟨i97, w⟩ := w
  refine va_sld hx hb S.1 S.2.1 (by rw [S.2.2]; exact Nat.not_le.mpr S.2.1) hW.2.2 i97 d_LW_law_306 ?_
  obtain ⟨t98, w⟩ := w
  refine hb_callv (va_runV (As := [.int (xs (x87 + (1 : Int32)).toNatClampNeg), .int (xs (x87 + (2 : Int32)).toNatClampNeg), .int (xs (x87 + (3 : Int32)).toNatClampNeg)]) (rest := []) ⟨hx, hb, hml, hown, hts⟩ (m_MO_add G x85 (xs (x87 + (1 : Int32)).toNatClampNeg) (xs (x87 + (2 : Int32)).toNatClampNeg) (xs (x87 + (3 : Int32)).toNatClampNeg) h92 hst w) (cwV 3 hts (zx_gV hT wd_695 wd_696 wd_697 wd_5 wd_698) rfl rfl rfl (by decide +kernel) ⟨Nat.le_of_ble_eq_true rfl, Nat.le_of_ble_eq_true rfl⟩) (hb_preV hK hX hW t98 (by decide) rfl) rfl rfl hl.1 rfl (lv_room (Nat.le_of_ble_eq_true rfl)) d_LW_law_307 ⟨(by show _ ≤ 601024; omega), (by show _ ≤ 7293033; omega)⟩) hW (fun h99 H locs hk hW => ?_)
  obtain ⟨w, mm100⟩ := hk
  have w := w mm100
  have hm := hm.tr mm100
  have t101 := mm100.tg t98 (by decide)
  refine lv_aload_n hx hb d_LW_law_310 rfl (lv_at hl 3 rfl) ?_
  refine hb_calli (va_runV (As := []) (rest := []) ⟨hx, hb, hml, hown, hts⟩ (m_MO_thrown G x85 h99 hst w) (cwV 0 hts (zx_gV hT wd_672 wd_673 wd_674 wd_5 wd_675) rfl rfl rfl (by decide +kernel) ⟨Nat.le_of_ble_eq_true rfl, Nat.le_of_ble_eq_true rfl⟩) (hb_preV hK hX hW t101 (by decide) rfl) rfl rfl hl.1 rfl (lv_room (Nat.le_of_ble_eq_true rfl)) d_LW_law_311 ⟨(by show _ ≤ 601024; omega), (by show _ ≤ 7293033; omega)⟩) hW (fun r103 h102 H locs hk hW => ?_)
  obtain ⟨w, mm104⟩ := hk
  have w := w mm104
  have hm := hm.tr mm104
  have t105 := mm104.tg t101 (by decide)
  refine lv_iload hx hb d_LW_law_314 (lv_at hl 0 rfl) ?_
  refine lv_icmp_eq (tgt := 321) hx hb d_LW_law_316 (by decide) (fun c106 => ?_) (fun c106 => ?_)
  · have w := w.1 c106
    refine lv_goto (tgt := 1523) hx hb d_LW_law_321 (by decide) ?_
    exact tb_LW_law_1523 C S (by omega) (by omega) hc_rc_23 x84 x85 x86 x87 h102 _ _ _ w hm hW (lv_sub hl [1, 2, 3, 4, 5] rfl)
  · have w := w.2 c106
    refine lv_iconst (v := 0) hx hb d_LW_law_319 (by decide) ?_
    exact w.elim
set_option maxHeartbeats 4000000 in
set_option maxRecDepth 100000 in
theorem tb_LW_law_324 {p : Program} {l : Launch} {e : Env} {s : State} {m : MethodId} {below : List Frame} {meth : Method} {c : Code} {G : zG} {b L : Nat} {xs : Nat → Int32} (C : cx_C p l s m #[Value.ref b] meth c G x code 8 ret "BigDeskLaw" lw_tbl []) (S : va_X b L xs s s.heap ∧ b < s.heap.size ∧ G.2.2 = s.heap.size) {h0 : ah_H} {cells slots n9 : Nat} (hcl : cells + 4 + 10 * n9 ≤ 601024) (hsl : slots + 24 + 60 * n9 ≤ 7293033) {rc_23 : Nat → Nat → Nat → Int32 → ah_H → Prop} (hc_rc_23 : ∀ (cells slots : Nat), cells + 10 * n9 ≤ 601024 → slots + 60 * n9 ≤ 7293033 → ∀ (z0 : Nat) (z1 : Nat) (z2 : Nat) (z3 : Int32) (hz : ah_H) (H : Heap) (locs : List Loc) (ls : Array Slot), rc_23 z0 z1 z2 z3 hz → ah_m h0 hz → ah_W G s.heap hz H locs → lv_has ls 8 [(0, .ref b), (1, .ref z0), (2, .ref z1), (3, .ref z2), (4, .int z3)] → W p l e room_1 s m #[Value.ref b] below meth c H locs cells slots (lw_Z below #[Value.ref b] s) (F0 m 23 ls [])) (x107 : Nat) (x108 : Nat) (x109 : Nat) (x110 : Int32) (h111 : ah_H) (H : Heap) (locs : List Loc) (ls : Array Slot) (w : bk_LW_law_324 rc_23 L xs x107 x108 x109 x110 h111) (hm : ah_m h0 h111) (hW : ah_W G s.heap h111 H locs) (hl : lv_has ls 8 [(0, .ref b), (1, .ref x107), (2, .ref x108), (3, .ref x109), (4, .int x110)]) : W p l e room_1 s m #[Value.ref b] below meth c H locs cells slots (lw_Z below #[Value.ref b] s) (F0 m 324 ls []) := by
  unfold bk_LW_law_324 at w
  obtain ⟨hx, hb, hr, hml, hown, hts, hT, hlk, hK, hX, htb, hin, hst⟩ := id C
  have hw : ∀ {w9 : Cond}, w9 ∈ zx_T → w9.before _ s = true := fun h9 => hts _ (hT _ h9)
  refine lv_aload_n hx hb d_LW_law_324 rfl (lv_at hl 1 rfl) ?_
  refine lv_aload_n hx hb d_LW_law_325 rfl (lv_at hl 0 rfl) ?_
  refine lv_iload hx hb d_LW_law_326 (lv_at hl 4 rfl) ?_
  refine lv_iconst (v := 1) hx hb d_LW_law_328 (by decide) ?_
  refine lv_iadd hx hb d_LW_law_329 ?_
  obtain ⟨i112, w⟩ := w
  refine va_sld hx hb S.1 S.2.1 (by rw [S.2.2]; exact Nat.not_le.mpr S.2.1) hW.2.2 i112 d_LW_law_330 ?_
  refine lv_aload_n hx hb d_LW_law_331 rfl (lv_at hl 0 rfl) ?_
  refine lv_iload hx hb d_LW_law_332 (lv_at hl 4 rfl) ?_
  refine lv_iconst (v := 2) hx hb d_LW_law_334 (by decide) ?_
  refine lv_iadd hx hb d_LW_law_335 ?_
  obtain ⟨i113, w⟩ := w
  refine va_sld hx hb S.1 S.2.1 (by rw [S.2.2]; exact Nat.not_le.mpr S.2.1) hW.2.2 i113 d_LW_law_336 ?_
  refine lv_aload_n hx hb d_LW_law_337 rfl (lv_at hl 0 rfl) ?_
  refine lv_iload hx hb d_LW_law_338 (lv_at hl 4 rfl) ?_
  refine lv_iconst (v := 3) hx hb d_LW_law_340 (by decide) ?_
  refine lv_iadd hx hb d_LW_law_341 ?_
  obtain ⟨i114, w⟩ := w
  refine va_sld hx hb S.1 S.2.1 (by rw [S.2.2]; exact Nat.not_le.mpr S.2.1) hW.2.2 i114 d_LW_law_342 ?_
  refine hb_calli (vx_runSW (As := [.ref x107, .int (xs (x110 + (1 : Int32)).toNatClampNeg), .int (xs (x110 + (2 : Int32)).toNatClampNeg), .int (xs (x110 + (3 : Int32)).toNatClampNeg)]) (rest := []) ⟨hx, hb, hml, hown, hts⟩ (m_LW_subtract G x107 (xs (x110 + (1 : Int32)).toNatClampNeg) (xs (x110 + (2 : Int32)).toNatClampNeg) (xs (x110 + (3 : Int32)).toNatClampNeg) h111 hst w) (vx_cwSW 4 hts (zx_gS hT wd_296 wd_297 wd_0 wd_298) rfl rfl rfl (by decide +kernel) ⟨Nat.le_of_ble_eq_true rfl, Nat.le_of_ble_eq_true rfl⟩) (hb_preS hK hX hW) rfl rfl hl.1 rfl (lv_room (Nat.le_of_ble_eq_true rfl)) d_LW_law_343 ⟨(by show _ ≤ 601024; omega), (by show _ ≤ 7293033; omega)⟩) hW (fun r116 h115 H locs hk hW => ?_)
  obtain ⟨w, mm117⟩ := hk
  have w := w mm117
  have hm := hm.tr mm117
  refine lv_istore (lv' := [(5, .int r116), (0, .ref b), (1, .ref x107), (2, .ref x108), (3, .ref x109), (4, .int x110)]) hx hb d_LW_law_346 hl (by decide) rfl (fun ls hl => ?_)
  refine lv_aload_n hx hb d_LW_law_348 rfl (lv_at hl 3 rfl) ?_
  refine lv_aload_n hx hb d_LW_law_349 rfl (lv_at hl 1 rfl) ?_
  refine lv_iload hx hb d_LW_law_350 (lv_at hl 5 rfl) ?_
  refine lv_iconst (v := 1) hx hb d_LW_law_352 (by decide) ?_
  refine lv_iadd hx hb d_LW_law_353 ?_
  obtain ⟨i118, w⟩ := w
  refine va_sld hx hb S.1 S.2.1 (by rw [S.2.2]; exact Nat.not_le.mpr S.2.1) hW.2.2 i118 d_LW_law_354 ?_
  refine lv_aload_n hx hb d_LW_law_355 rfl (lv_at hl 1 rfl) ?_
  refine lv_iload hx hb d_LW_law_356 (lv_at hl 5 rfl) ?_
  refine lv_iconst (v := 2) hx hb d_LW_law_358 (by decide) ?_
  refine lv_iadd hx hb d_LW_law_359 ?_
  obtain ⟨i119, w⟩ := w
  refine va_sld hx hb S.1 S.2.1 (by rw [S.2.2]; exact Nat.not_le.mpr S.2.1) hW.2.2 i119 d_LW_law_360 ?_
  refine lv_aload_n hx hb d_LW_law_361 rfl (lv_at hl 1 rfl) ?_
  refine lv_iload hx hb d_LW_law_362 (lv_at hl 5 rfl) ?_
  refine lv_iconst (v := 3) hx hb d_LW_law_364 (by decide) ?_
  refine lv_iadd hx hb d_LW_law_365 ?_
  obtain ⟨i120, w⟩ := w
  refine va_sld hx hb S.1 S.2.1 (by rw [S.2.2]; exact Nat.not_le.mpr S.2.1) hW.2.2 i120 d_LW_law_366 ?_
  obtain ⟨t121, w⟩ := w
  refine hb_callv (va_runV (As := [.int (xs (x110 + (1 : Int32)).toNatClampNeg), .int (xs (x110 + (2 : Int32)).toNatClampNeg), .int (xs (x110 + (3 : Int32)).toNatClampNeg)]) (rest := []) ⟨hx, hb, hml, hown, hts⟩ (m_MO_subtract G x108 (xs (x110 + (1 : Int32)).toNatClampNeg) (xs (x110 + (2 : Int32)).toNatClampNeg) (xs (x110 + (3 : Int32)).toNatClampNeg) h115 hst w) (cwV 3 hts (zx_gV hT wd_719 wd_720 wd_721 wd_5 wd_722) rfl rfl rfl (by decide +kernel) ⟨Nat.le_of_ble_eq_true rfl, Nat.le_of_ble_eq_true rfl⟩) (hb_preV hK hX hW t121 (by decide) rfl) rfl rfl hl.1 rfl (lv_room (Nat.le_of_ble_eq_true rfl)) d_LW_law_367 ⟨(by show _ ≤ 601024; omega), (by show _ ≤ 7293033; omega)⟩) hW (fun h122 H locs hk hW => ?_)
  obtain ⟨w, mm123⟩ := hk
  have w := w mm123
  have hm := hm.tr mm123
  have t124 := mm123.tg t121 (by decide)
  refine lv_aload_n hx hb d_LW_law_370 rfl (lv_at hl 3 rfl) ?_
  refine hb_calli (va_runV (As := []) (rest := []) ⟨hx, hb, hml, hown, hts⟩ (m_MO_thrown G x108 h122 hst w) (cwV 0 hts (zx_gV hT wd_672 wd_673 wd_674 wd_5 wd_675) rfl rfl rfl (by decide +kernel) ⟨Nat.le_of_ble_eq_true rfl, Nat.le_of_ble_eq_true rfl⟩) (hb_preV hK hX hW t124 (by decide) rfl) rfl rfl hl.1 rfl (lv_room (Nat.le_of_ble_eq_true rfl)) d_LW_law_371 ⟨(by show _ ≤ 601024; omega), (by show _ ≤ 7293033; omega)⟩) hW (fun r126 h125 H locs hk hW => ?_)
  obtain ⟨w, mm127⟩ := hk
  have w := w mm127
  have hm := hm.tr mm127
  have t128 := mm127.tg t124 (by decide)
  refine lv_iload hx hb d_LW_law_374 (lv_at hl 0 rfl) ?_
  refine lv_icmp_eq (tgt := 381) hx hb d_LW_law_376 (by decide) (fun c129 => ?_) (fun c129 => ?_)
  · have w := w.1 c129
    refine lv_goto (tgt := 1523) hx hb d_LW_law_381 (by decide) ?_
    exact tb_LW_law_1523 C S (by omega) (by omega) hc_rc_23 x107 x108 x109 x110 h125 _ _ _ w hm hW (lv_sub hl [1, 2, 3, 4, 5] rfl)
  · have w := w.2 c129
    refine lv_iconst (v := 0) hx hb d_LW_law_379 (by decide) ?_
    exact w.elim
set_option maxHeartbeats 4000000 in
set_option maxRecDepth 100000 in
theorem tb_LW_law_384 {p : Program} {l : Launch} {e : Env} {s : State} {m : MethodId} {below : List Frame} {meth : Method} {c : Code} {G : zG} {b L : Nat} {xs : Nat → Int32} (C : cx_C p l s m #[Value.ref b] meth c G x code 8 ret "BigDeskLaw" lw_tbl []) (S : va_X b L xs s s.heap ∧ b < s.heap.size ∧ G.2.2 = s.heap.size) {h0 : ah_H} {cells slots n9 : Nat} (hcl : cells + 4 + 10 * n9 ≤ 601024) (hsl : slots + 24 + 60 * n9 ≤ 7293033) {rc_23 : Nat → Nat → Nat → Int32 → ah_H → Prop} (hc_rc_23 : ∀ (cells slots : Nat), cells + 10 * n9 ≤ 601024 → slots + 60 * n9 ≤ 7293033 → ∀ (z0 : Nat) (z1 : Nat) (z2 : Nat) (z3 : Int32) (hz : ah_H) (H : Heap) (locs : List Loc) (ls : Array Slot), rc_23 z0 z1 z2 z3 hz → ah_m h0 hz → ah_W G s.heap hz H locs → lv_has ls 8 [(0, .ref b), (1, .ref z0), (2, .ref z1), (3, .ref z2), (4, .int z3)] → W p l e room_1 s m #[Value.ref b] below meth c H locs cells slots (lw_Z below #[Value.ref b] s) (F0 m 23 ls [])) (x130 : Nat) (x131 : Nat) (x132 : Nat) (x133 : Int32) (h134 : ah_H) (H : Heap) (locs : List Loc) (ls : Array Slot) (w : bk_LW_law_384 rc_23 L xs x130 x131 x132 x133 h134) (hm : ah_m h0 h134) (hW : ah_W G s.heap h134 H locs) (hl : lv_has ls 8 [(0, .ref b), (1, .ref x130), (2, .ref x131), (3, .ref x132), (4, .int x133)]) : W p l e room_1 s m #[Value.ref b] below meth c H locs cells slots (lw_Z below #[Value.ref b] s) (F0 m 384 ls []) := by
  unfold bk_LW_law_384 at w
  obtain ⟨hx, hb, hr, hml, hown, hts, hT, hlk, hK, hX, htb, hin, hst⟩ := id C
  have hw : ∀ {w9 : Cond}, w9 ∈ zx_T → w9.before _ s = true := fun h9 => hts _ (hT _ h9)
  refine lv_aload_n hx hb d_LW_law_384 rfl (lv_at hl 1 rfl) ?_
  refine lv_aload_n hx hb d_LW_law_385 rfl (lv_at hl 0 rfl) ?_
  refine lv_iload hx hb d_LW_law_386 (lv_at hl 4 rfl) ?_
  refine lv_iconst (v := 1) hx hb d_LW_law_388 (by decide) ?_
  refine lv_iadd hx hb d_LW_law_389 ?_
  obtain ⟨i135, w⟩ := w
  refine va_sld hx hb S.1 S.2.1 (by rw [S.2.2]; exact Nat.not_le.mpr S.2.1) hW.2.2 i135 d_LW_law_390 ?_
  refine lv_aload_n hx hb d_LW_law_391 rfl (lv_at hl 0 rfl) ?_
  refine lv_iload hx hb d_LW_law_392 (lv_at hl 4 rfl) ?_
  refine lv_iconst (v := 2) hx hb d_LW_law_394 (by decide) ?_
  refine lv_iadd hx hb d_LW_law_395 ?_
  obtain ⟨i136, w⟩ := w
  refine va_sld hx hb S.1 S.2.1 (by rw [S.2.2]; exact Nat.not_le.mpr S.2.1) hW.2.2 i136 d_LW_law_396 ?_
  refine lv_aload_n hx hb d_LW_law_397 rfl (lv_at hl 0 rfl) ?_
  refine lv_iload hx hb d_LW_law_398 (lv_at hl 4 rfl) ?_
  refine lv_iconst (v := 3) hx hb d_LW_law_400 (by decide) ?_
  refine lv_iadd hx hb d_LW_law_401 ?_
  obtain ⟨i137, w⟩ := w
  refine va_sld hx hb S.1 S.2.1 (by rw [S.2.2]; exact Nat.not_le.mpr S.2.1) hW.2.2 i137 d_LW_law_402 ?_
  refine hb_calli (vx_runSW (As := [.ref x130, .int (xs (x133 + (1 : Int32)).toNatClampNeg), .int (xs (x133 + (2 : Int32)).toNatClampNeg), .int (xs (x133 + (3 : Int32)).toNatClampNeg)]) (rest := []) ⟨hx, hb, hml, hown, hts⟩ (m_LW_multiply G x130 (xs (x133 + (1 : Int32)).toNatClampNeg) (xs (x133 + (2 : Int32)).toNatClampNeg) (xs (x133 + (3 : Int32)).toNatClampNeg) h134 hst w) (vx_cwSW 4 hts (zx_gS hT wd_303 wd_304 wd_0 wd_305) rfl rfl rfl (by decide +kernel) ⟨Nat.le_of_ble_eq_true rfl, Nat.le_of_ble_eq_true rfl⟩) (hb_preS hK hX hW) rfl rfl hl.1 rfl (lv_room (Nat.le_of_ble_eq_true rfl)) d_LW_law_403 ⟨(by show _ ≤ 601024; omega), (by show _ ≤ 7293033; omega)⟩) hW (fun r139 h138 H locs hk hW => ?_)
  obtain ⟨w, mm140⟩ := hk
  have w := w mm140
  have hm := hm.tr mm140
  refine lv_istore (lv' := [(5, .int r139), (0, .ref b), (1, .ref x130), (2, .ref x131), (3, .ref x132), (4, .int x133)]) hx hb d_LW_law_406 hl (by decide) rfl (fun ls hl => ?_)
  refine lv_aload_n hx hb d_LW_law_408 rfl (lv_at hl 3 rfl) ?_
  refine lv_aload_n hx hb d_LW_law_409 rfl (lv_at hl 1 rfl) ?_
  refine lv_iload hx hb d_LW_law_410 (lv_at hl 5 rfl) ?_
  refine lv_iconst (v := 1) hx hb d_LW_law_412 (by decide) ?_
  refine lv_iadd hx hb d_LW_law_413 ?_
  obtain ⟨i141, w⟩ := w
  refine va_sld hx hb S.1 S.2.1 (by rw [S.2.2]; exact Nat.not_le.mpr S.2.1) hW.2.2 i141 d_LW_law_414 ?_
  refine lv_aload_n hx hb d_LW_law_415 rfl (lv_at hl 1 rfl) ?_
  refine lv_iload hx hb d_LW_law_416 (lv_at hl 5 rfl) ?_
  refine lv_iconst (v := 2) hx hb d_LW_law_418 (by decide) ?_
  refine lv_iadd hx hb d_LW_law_419 ?_
  obtain ⟨i142, w⟩ := w
  refine va_sld hx hb S.1 S.2.1 (by rw [S.2.2]; exact Nat.not_le.mpr S.2.1) hW.2.2 i142 d_LW_law_420 ?_
  refine lv_aload_n hx hb d_LW_law_421 rfl (lv_at hl 1 rfl) ?_
  refine lv_iload hx hb d_LW_law_422 (lv_at hl 5 rfl) ?_
  refine lv_iconst (v := 3) hx hb d_LW_law_424 (by decide) ?_
  refine lv_iadd hx hb d_LW_law_425 ?_
  obtain ⟨i143, w⟩ := w
  refine va_sld hx hb S.1 S.2.1 (by rw [S.2.2]; exact Nat.not_le.mpr S.2.1) hW.2.2 i143 d_LW_law_426 ?_
  obtain ⟨t144, w⟩ := w
  refine hb_callv (va_runV (As := [.int (xs (x133 + (1 : Int32)).toNatClampNeg), .int (xs (x133 + (2 : Int32)).toNatClampNeg), .int (xs (x133 + (3 : Int32)).toNatClampNeg)]) (rest := []) ⟨hx, hb, hml, hown, hts⟩ (m_MO_multiply G x131 (xs (x133 + (1 : Int32)).toNatClampNeg) (xs (x133 + (2 : Int32)).toNatClampNeg) (xs (x133 + (3 : Int32)).toNatClampNeg) h138 hst w) (cwV 3 hts (zx_gV hT wd_723 wd_724 wd_725 wd_5 wd_726) rfl rfl rfl (by decide +kernel) ⟨Nat.le_of_ble_eq_true rfl, Nat.le_of_ble_eq_true rfl⟩) (hb_preV hK hX hW t144 (by decide) rfl) rfl rfl hl.1 rfl (lv_room (Nat.le_of_ble_eq_true rfl)) d_LW_law_427 ⟨(by show _ ≤ 601024; omega), (by show _ ≤ 7293033; omega)⟩) hW (fun h145 H locs hk hW => ?_)
  obtain ⟨w, mm146⟩ := hk
  have w := w mm146
  have hm := hm.tr mm146
  have t147 := mm146.tg t144 (by decide)
  refine lv_aload_n hx hb d_LW_law_430 rfl (lv_at hl 3 rfl) ?_
  refine hb_calli (va_runV (As := []) (rest := []) ⟨hx, hb, hml, hown, hts⟩ (m_MO_thrown G x131 h145 hst w) (cwV 0 hts (zx_gV hT wd_672 wd_673 wd_674 wd_5 wd_675) rfl rfl rfl (by decide +kernel) ⟨Nat.le_of_ble_eq_true rfl, Nat.le_of_ble_eq_true rfl⟩) (hb_preV hK hX hW t147 (by decide) rfl) rfl rfl hl.1 rfl (lv_room (Nat.le_of_ble_eq_true rfl)) d_LW_law_431 ⟨(by show _ ≤ 601024; omega), (by show _ ≤ 7293033; omega)⟩) hW (fun r149 h148 H locs hk hW => ?_)
  obtain ⟨w, mm150⟩ := hk
  have w := w mm150
  have hm := hm.tr mm150
  have t151 := mm150.tg t147 (by decide)
  refine lv_iload hx hb d_LW_law_434 (lv_at hl 0 rfl) ?_
  refine lv_icmp_eq (tgt := 441) hx hb d_LW_law_436 (by decide) (fun c152 => ?_) (fun c152 => ?_)
  · have w := w.1 c152
    refine lv_goto (tgt := 1523) hx hb d_LW_law_441 (by decide) ?_
    exact tb_LW_law_1523 C S (by omega) (by omega) hc_rc_23 x130 x131 x132 x133 h148 _ _ _ w hm hW (lv_sub hl [1, 2, 3, 4, 5] rfl)
  · have w := w.2 c152
    refine lv_iconst (v := 0) hx hb d_LW_law_439 (by decide) ?_
    exact w.elim
set_option maxHeartbeats 4000000 in
set_option maxRecDepth 100000 in
theorem tb_LW_law_444 {p : Program} {l : Launch} {e : Env} {s : State} {m : MethodId} {below : List Frame} {meth : Method} {c : Code} {G : zG} {b L : Nat} {xs : Nat → Int32} (C : cx_C p l s m #[Value.ref b] meth c G x code 8 ret "BigDeskLaw" lw_tbl []) (S : va_X b L xs s s.heap ∧ b < s.heap.size ∧ G.2.2 = s.heap.size) {h0 : ah_H} {cells slots n9 : Nat} (hcl : cells + 3 + 10 * n9 ≤ 601024) (hsl : slots + 18 + 60 * n9 ≤ 7293033) {rc_23 : Nat → Nat → Nat → Int32 → ah_H → Prop} (hc_rc_23 : ∀ (cells slots : Nat), cells + 10 * n9 ≤ 601024 → slots + 60 * n9 ≤ 7293033 → ∀ (z0 : Nat) (z1 : Nat) (z2 : Nat) (z3 : Int32) (hz : ah_H) (H : Heap) (locs : List Loc) (ls : Array Slot), rc_23 z0 z1 z2 z3 hz → ah_m h0 hz → ah_W G s.heap hz H locs → lv_has ls 8 [(0, .ref b), (1, .ref z0), (2, .ref z1), (3, .ref z2), (4, .int z3)] → W p l e room_1 s m #[Value.ref b] below meth c H locs cells slots (lw_Z below #[Value.ref b] s) (F0 m 23 ls [])) (x153 : Nat) (x154 : Nat) (x155 : Nat) (x156 : Int32) (h157 : ah_H) (H : Heap) (locs : List Loc) (ls : Array Slot) (w : bk_LW_law_444 rc_23 L xs x153 x154 x155 x156 h157) (hm : ah_m h0 h157) (hW : ah_W G s.heap h157 H locs) (hl : lv_has ls 8 [(0, .ref b), (1, .ref x153), (2, .ref x154), (3, .ref x155), (4, .int x156)]) : W p l e room_1 s m #[Value.ref b] below meth c H locs cells slots (lw_Z below #[Value.ref b] s) (F0 m 444 ls []) := by
  unfold bk_LW_law_444 at w
  obtain ⟨hx, hb, hr, hml, hown, hts, hT, hlk, hK, hX, htb, hin, hst⟩ := id C
  have hw : ∀ {w9 : Cond}, w9 ∈ zx_T → w9.before _ s = true := fun h9 => hts _ (hT _ h9)
  refine lv_aload_n hx hb d_LW_law_444 rfl (lv_at hl 1 rfl) ?_
  refine lv_aload_n hx hb d_LW_law_445 rfl (lv_at hl 0 rfl) ?_
  refine lv_iload hx hb d_LW_law_446 (lv_at hl 4 rfl) ?_
  refine lv_iconst (v := 1) hx hb d_LW_law_448 (by decide) ?_
  refine lv_iadd hx hb d_LW_law_449 ?_
  obtain ⟨i158, w⟩ := w
  refine va_sld hx hb S.1 S.2.1 (by rw [S.2.2]; exact Nat.not_le.mpr S.2.1) hW.2.2 i158 d_LW_law_450 ?_
  refine lv_aload_n hx hb d_LW_law_451 rfl (lv_at hl 0 rfl) ?_
  refine lv_iload hx hb d_LW_law_452 (lv_at hl 4 rfl) ?_
  refine lv_iconst (v := 2) hx hb d_LW_law_454 (by decide) ?_
  refine lv_iadd hx hb d_LW_law_455 ?_
  obtain ⟨i159, w⟩ := w
  refine va_sld hx hb S.1 S.2.1 (by rw [S.2.2]; exact Nat.not_le.mpr S.2.1) hW.2.2 i159 d_LW_law_456 ?_
  refine lv_aload_n hx hb d_LW_law_457 rfl (lv_at hl 0 rfl) ?_
  refine lv_iload hx hb d_LW_law_458 (lv_at hl 4 rfl) ?_
  refine lv_iconst (v := 3) hx hb d_LW_law_460 (by decide) ?_
  refine lv_iadd hx hb d_LW_law_461 ?_
  obtain ⟨i160, w⟩ := w
  refine va_sld hx hb S.1 S.2.1 (by rw [S.2.2]; exact Nat.not_le.mpr S.2.1) hW.2.2 i160 d_LW_law_462 ?_
  refine lv_i2l hx hb d_LW_law_463 rfl ?_
  refine lv_bipush (v := 32) hx hb d_LW_law_464 (by decide) ?_
  refine lv_lshl hx hb d_LW_law_466 rfl ?_
  refine lv_aload_n hx hb d_LW_law_467 rfl (lv_at hl 0 rfl) ?_
  refine lv_iload hx hb d_LW_law_468 (lv_at hl 4 rfl) ?_
  refine lv_iconst (v := 4) hx hb d_LW_law_470 (by decide) ?_
  refine lv_iadd hx hb d_LW_law_471 ?_
  obtain ⟨i161, w⟩ := w
  refine va_sld hx hb S.1 S.2.1 (by rw [S.2.2]; exact Nat.not_le.mpr S.2.1) hW.2.2 i161 d_LW_law_472 ?_
  refine lv_i2l hx hb d_LW_law_473 rfl ?_
  refine lv_ldc2 (v := 4294967295) hx hb hown (hw wd_845) d_LW_law_474 ?_
  refine lv_land hx hb d_LW_law_477 ?_
  refine lv_lor hx hb d_LW_law_478 ?_
  refine hb_calli (vx_runSW (As := [.ref x153, .int (xs (x156 + (1 : Int32)).toNatClampNeg), .int (xs (x156 + (2 : Int32)).toNatClampNeg), .long ((((xs (x156 + (3 : Int32)).toNatClampNeg).toInt64) <<< ((32 : Int32).toInt64 &&& 63)) ||| (((xs (x156 + (4 : Int32)).toNatClampNeg).toInt64) &&& (4294967295 : Int64)))]) (rest := []) ⟨hx, hb, hml, hown, hts⟩ (m_LW_times G x153 (xs (x156 + (1 : Int32)).toNatClampNeg) (xs (x156 + (2 : Int32)).toNatClampNeg) ((((xs (x156 + (3 : Int32)).toNatClampNeg).toInt64) <<< ((32 : Int32).toInt64 &&& 63)) ||| (((xs (x156 + (4 : Int32)).toNatClampNeg).toInt64) &&& (4294967295 : Int64))) h157 hst w) (vx_cwSW 4 hts (zx_gS hT wd_320 wd_321 wd_0 wd_322) rfl rfl rfl (by decide +kernel) ⟨Nat.le_of_ble_eq_true rfl, Nat.le_of_ble_eq_true rfl⟩) (hb_preS hK hX hW) rfl rfl hl.1 rfl (lv_room (Nat.le_of_ble_eq_true rfl)) d_LW_law_479 ⟨(by show _ ≤ 601024; omega), (by show _ ≤ 7293033; omega)⟩) hW (fun r163 h162 H locs hk hW => ?_)
  obtain ⟨w, mm164⟩ := hk
  have w := w mm164
  have hm := hm.tr mm164
  refine lv_istore (lv' := [(5, .int r163), (0, .ref b), (1, .ref x153), (2, .ref x154), (3, .ref x155), (4, .int x156)]) hx hb d_LW_law_482 hl (by decide) rfl (fun ls hl => ?_)
  refine lv_aload_n hx hb d_LW_law_484 rfl (lv_at hl 3 rfl) ?_
  refine lv_aload_n hx hb d_LW_law_485 rfl (lv_at hl 1 rfl) ?_
  refine lv_iload hx hb d_LW_law_486 (lv_at hl 5 rfl) ?_
  refine lv_iconst (v := 1) hx hb d_LW_law_488 (by decide) ?_
  refine lv_iadd hx hb d_LW_law_489 ?_
  obtain ⟨i165, w⟩ := w
  refine va_sld hx hb S.1 S.2.1 (by rw [S.2.2]; exact Nat.not_le.mpr S.2.1) hW.2.2 i165 d_LW_law_490 ?_
  refine lv_aload_n hx hb d_LW_law_491 rfl (lv_at hl 1 rfl) ?_
  refine lv_iload hx hb d_LW_law_492 (lv_at hl 5 rfl) ?_
  refine lv_iconst (v := 2) hx hb d_LW_law_494 (by decide) ?_
  refine lv_iadd hx hb d_LW_law_495 ?_
  obtain ⟨i166, w⟩ := w
  refine va_sld hx hb S.1 S.2.1 (by rw [S.2.2]; exact Nat.not_le.mpr S.2.1) hW.2.2 i166 d_LW_law_496 ?_
  refine lv_aload_n hx hb d_LW_law_497 rfl (lv_at hl 1 rfl) ?_
  refine lv_iload hx hb d_LW_law_498 (lv_at hl 5 rfl) ?_
  refine lv_iconst (v := 3) hx hb d_LW_law_500 (by decide) ?_
  refine lv_iadd hx hb d_LW_law_501 ?_
  obtain ⟨i167, w⟩ := w
  refine va_sld hx hb S.1 S.2.1 (by rw [S.2.2]; exact Nat.not_le.mpr S.2.1) hW.2.2 i167 d_LW_law_502 ?_
  refine lv_i2l hx hb d_LW_law_503 rfl ?_
  refine lv_bipush (v := 32) hx hb d_LW_law_504 (by decide) ?_
  refine lv_lshl hx hb d_LW_law_506 rfl ?_
  refine lv_aload_n hx hb d_LW_law_507 rfl (lv_at hl 1 rfl) ?_
  refine lv_iload hx hb d_LW_law_508 (lv_at hl 5 rfl) ?_
  refine lv_iconst (v := 4) hx hb d_LW_law_510 (by decide) ?_
  refine lv_iadd hx hb d_LW_law_511 ?_
  obtain ⟨i168, w⟩ := w
  refine va_sld hx hb S.1 S.2.1 (by rw [S.2.2]; exact Nat.not_le.mpr S.2.1) hW.2.2 i168 d_LW_law_512 ?_
  refine lv_i2l hx hb d_LW_law_513 rfl ?_
  refine lv_ldc2 (v := 4294967295) hx hb hown (hw wd_845) d_LW_law_514 ?_
  refine lv_land hx hb d_LW_law_517 ?_
  refine lv_lor hx hb d_LW_law_518 ?_
  obtain ⟨t169, w⟩ := w
  refine hb_callv (va_runV (As := [.int (xs (x156 + (1 : Int32)).toNatClampNeg), .int (xs (x156 + (2 : Int32)).toNatClampNeg), .long ((((xs (x156 + (3 : Int32)).toNatClampNeg).toInt64) <<< ((32 : Int32).toInt64 &&& 63)) ||| (((xs (x156 + (4 : Int32)).toNatClampNeg).toInt64) &&& (4294967295 : Int64)))]) (rest := []) ⟨hx, hb, hml, hown, hts⟩ (m_MO_times G x154 (xs (x156 + (1 : Int32)).toNatClampNeg) (xs (x156 + (2 : Int32)).toNatClampNeg) ((((xs (x156 + (3 : Int32)).toNatClampNeg).toInt64) <<< ((32 : Int32).toInt64 &&& 63)) ||| (((xs (x156 + (4 : Int32)).toNatClampNeg).toInt64) &&& (4294967295 : Int64))) h162 hst w) (cwV 3 hts (zx_gV hT wd_731 wd_732 wd_733 wd_5 wd_734) rfl rfl rfl (by decide +kernel) ⟨Nat.le_of_ble_eq_true rfl, Nat.le_of_ble_eq_true rfl⟩) (hb_preV hK hX hW t169 (by decide) rfl) rfl rfl hl.1 rfl (lv_room (Nat.le_of_ble_eq_true rfl)) d_LW_law_519 ⟨(by show _ ≤ 601024; omega), (by show _ ≤ 7293033; omega)⟩) hW (fun h170 H locs hk hW => ?_)
  obtain ⟨w, mm171⟩ := hk
  have w := w mm171
  have hm := hm.tr mm171
  have t172 := mm171.tg t169 (by decide)
  refine lv_aload_n hx hb d_LW_law_522 rfl (lv_at hl 3 rfl) ?_
  refine hb_calli (va_runV (As := []) (rest := []) ⟨hx, hb, hml, hown, hts⟩ (m_MO_thrown G x154 h170 hst w) (cwV 0 hts (zx_gV hT wd_672 wd_673 wd_674 wd_5 wd_675) rfl rfl rfl (by decide +kernel) ⟨Nat.le_of_ble_eq_true rfl, Nat.le_of_ble_eq_true rfl⟩) (hb_preV hK hX hW t172 (by decide) rfl) rfl rfl hl.1 rfl (lv_room (Nat.le_of_ble_eq_true rfl)) d_LW_law_523 ⟨(by show _ ≤ 601024; omega), (by show _ ≤ 7293033; omega)⟩) hW (fun r174 h173 H locs hk hW => ?_)
  obtain ⟨w, mm175⟩ := hk
  have w := w mm175
  have hm := hm.tr mm175
  have t176 := mm175.tg t172 (by decide)
  refine lv_iload hx hb d_LW_law_526 (lv_at hl 0 rfl) ?_
  refine lv_icmp_eq (tgt := 533) hx hb d_LW_law_528 (by decide) (fun c177 => ?_) (fun c177 => ?_)
  · have w := w.1 c177
    refine lv_goto (tgt := 1523) hx hb d_LW_law_533 (by decide) ?_
    exact tb_LW_law_1523 C S (by omega) (by omega) hc_rc_23 x153 x154 x155 x156 h173 _ _ _ w hm hW (lv_sub hl [1, 2, 3, 4, 5] rfl)
  · have w := w.2 c177
    refine lv_iconst (v := 0) hx hb d_LW_law_531 (by decide) ?_
    exact w.elim
set_option maxHeartbeats 4000000 in
set_option maxRecDepth 100000 in
theorem tb_LW_law_536 {p : Program} {l : Launch} {e : Env} {s : State} {m : MethodId} {below : List Frame} {meth : Method} {c : Code} {G : zG} {b L : Nat} {xs : Nat → Int32} (C : cx_C p l s m #[Value.ref b] meth c G x code 8 ret "BigDeskLaw" lw_tbl []) (S : va_X b L xs s s.heap ∧ b < s.heap.size ∧ G.2.2 = s.heap.size) {h0 : ah_H} {cells slots n9 : Nat} (hcl : cells + 4 + 10 * n9 ≤ 601024) (hsl : slots + 24 + 60 * n9 ≤ 7293033) {rc_23 : Nat → Nat → Nat → Int32 → ah_H → Prop} (hc_rc_23 : ∀ (cells slots : Nat), cells + 10 * n9 ≤ 601024 → slots + 60 * n9 ≤ 7293033 → ∀ (z0 : Nat) (z1 : Nat) (z2 : Nat) (z3 : Int32) (hz : ah_H) (H : Heap) (locs : List Loc) (ls : Array Slot), rc_23 z0 z1 z2 z3 hz → ah_m h0 hz → ah_W G s.heap hz H locs → lv_has ls 8 [(0, .ref b), (1, .ref z0), (2, .ref z1), (3, .ref z2), (4, .int z3)] → W p l e room_1 s m #[Value.ref b] below meth c H locs cells slots (lw_Z below #[Value.ref b] s) (F0 m 23 ls [])) (x178 : Nat) (x179 : Nat) (x180 : Nat) (x181 : Int32) (h182 : ah_H) (H : Heap) (locs : List Loc) (ls : Array Slot) (w : bk_LW_law_536 rc_23 L xs x178 x179 x180 x181 h182) (hm : ah_m h0 h182) (hW : ah_W G s.heap h182 H locs) (hl : lv_has ls 8 [(0, .ref b), (1, .ref x178), (2, .ref x179), (3, .ref x180), (4, .int x181)]) : W p l e room_1 s m #[Value.ref b] below meth c H locs cells slots (lw_Z below #[Value.ref b] s) (F0 m 536 ls []) := by
  unfold bk_LW_law_536 at w
  obtain ⟨hx, hb, hr, hml, hown, hts, hT, hlk, hK, hX, htb, hin, hst⟩ := id C
  have hw : ∀ {w9 : Cond}, w9 ∈ zx_T → w9.before _ s = true := fun h9 => hts _ (hT _ h9)
  refine lv_aload_n hx hb d_LW_law_536 rfl (lv_at hl 1 rfl) ?_
  refine lv_aload_n hx hb d_LW_law_537 rfl (lv_at hl 0 rfl) ?_
  refine lv_iload hx hb d_LW_law_538 (lv_at hl 4 rfl) ?_
  refine lv_iconst (v := 1) hx hb d_LW_law_540 (by decide) ?_
  refine lv_iadd hx hb d_LW_law_541 ?_
  obtain ⟨i183, w⟩ := w
  refine va_sld hx hb S.1 S.2.1 (by rw [S.2.2]; exact Nat.not_le.mpr S.2.1) hW.2.2 i183 d_LW_law_542 ?_
  refine lv_aload_n hx hb d_LW_law_543 rfl (lv_at hl 0 rfl) ?_
  refine lv_iload hx hb d_LW_law_544 (lv_at hl 4 rfl) ?_
  refine lv_iconst (v := 2) hx hb d_LW_law_546 (by decide) ?_
  refine lv_iadd hx hb d_LW_law_547 ?_
  obtain ⟨i184, w⟩ := w
  refine va_sld hx hb S.1 S.2.1 (by rw [S.2.2]; exact Nat.not_le.mpr S.2.1) hW.2.2 i184 d_LW_law_548 ?_
  refine lv_aload_n hx hb d_LW_law_549 rfl (lv_at hl 0 rfl) ?_
  refine lv_iload hx hb d_LW_law_550 (lv_at hl 4 rfl) ?_
  refine lv_iconst (v := 3) hx hb d_LW_law_552 (by decide) ?_
  refine lv_iadd hx hb d_LW_law_553 ?_
  obtain ⟨i185, w⟩ := w
  refine va_sld hx hb S.1 S.2.1 (by rw [S.2.2]; exact Nat.not_le.mpr S.2.1) hW.2.2 i185 d_LW_law_554 ?_
  refine hb_calli (vx_runSW (As := [.ref x178, .int (xs (x181 + (1 : Int32)).toNatClampNeg), .int (xs (x181 + (2 : Int32)).toNatClampNeg), .int (xs (x181 + (3 : Int32)).toNatClampNeg)]) (rest := []) ⟨hx, hb, hml, hown, hts⟩ (m_LW_shift G x178 (xs (x181 + (1 : Int32)).toNatClampNeg) (xs (x181 + (2 : Int32)).toNatClampNeg) (xs (x181 + (3 : Int32)).toNatClampNeg) h182 hst w) (vx_cwSW 4 hts (zx_gS hT wd_327 wd_328 wd_0 wd_329) rfl rfl rfl (by decide +kernel) ⟨Nat.le_of_ble_eq_true rfl, Nat.le_of_ble_eq_true rfl⟩) (hb_preS hK hX hW) rfl rfl hl.1 rfl (lv_room (Nat.le_of_ble_eq_true rfl)) d_LW_law_555 ⟨(by show _ ≤ 601024; omega), (by show _ ≤ 7293033; omega)⟩) hW (fun r187 h186 H locs hk hW => ?_)
  obtain ⟨w, mm188⟩ := hk
  have w := w mm188
  have hm := hm.tr mm188
  refine lv_istore (lv' := [(5, .int r187), (0, .ref b), (1, .ref x178), (2, .ref x179), (3, .ref x180), (4, .int x181)]) hx hb d_LW_law_558 hl (by decide) rfl (fun ls hl => ?_)
  refine lv_aload_n hx hb d_LW_law_560 rfl (lv_at hl 3 rfl) ?_
  refine lv_aload_n hx hb d_LW_law_561 rfl (lv_at hl 1 rfl) ?_
  refine lv_iload hx hb d_LW_law_562 (lv_at hl 5 rfl) ?_
  refine lv_iconst (v := 1) hx hb d_LW_law_564 (by decide) ?_
  refine lv_iadd hx hb d_LW_law_565 ?_
  obtain ⟨i189, w⟩ := w
  refine va_sld hx hb S.1 S.2.1 (by rw [S.2.2]; exact Nat.not_le.mpr S.2.1) hW.2.2 i189 d_LW_law_566 ?_
  refine lv_aload_n hx hb d_LW_law_567 rfl (lv_at hl 1 rfl) ?_
  refine lv_iload hx hb d_LW_law_568 (lv_at hl 5 rfl) ?_
  refine lv_iconst (v := 2) hx hb d_LW_law_570 (by decide) ?_
  refine lv_iadd hx hb d_LW_law_571 ?_
  obtain ⟨i190, w⟩ := w
  refine va_sld hx hb S.1 S.2.1 (by rw [S.2.2]; exact Nat.not_le.mpr S.2.1) hW.2.2 i190 d_LW_law_572 ?_
  refine lv_aload_n hx hb d_LW_law_573 rfl (lv_at hl 1 rfl) ?_
  refine lv_iload hx hb d_LW_law_574 (lv_at hl 5 rfl) ?_
  refine lv_iconst (v := 3) hx hb d_LW_law_576 (by decide) ?_
  refine lv_iadd hx hb d_LW_law_577 ?_
  obtain ⟨i191, w⟩ := w
  refine va_sld hx hb S.1 S.2.1 (by rw [S.2.2]; exact Nat.not_le.mpr S.2.1) hW.2.2 i191 d_LW_law_578 ?_
  obtain ⟨t192, w⟩ := w
  refine hb_callv (va_runV (As := [.int (xs (x181 + (1 : Int32)).toNatClampNeg), .int (xs (x181 + (2 : Int32)).toNatClampNeg), .int (xs (x181 + (3 : Int32)).toNatClampNeg)]) (rest := []) ⟨hx, hb, hml, hown, hts⟩ (m_MO_shift G x179 (xs (x181 + (1 : Int32)).toNatClampNeg) (xs (x181 + (2 : Int32)).toNatClampNeg) (xs (x181 + (3 : Int32)).toNatClampNeg) h186 hst w) (cwV 3 hts (zx_gV hT wd_735 wd_736 wd_737 wd_5 wd_738) rfl rfl rfl (by decide +kernel) ⟨Nat.le_of_ble_eq_true rfl, Nat.le_of_ble_eq_true rfl⟩) (hb_preV hK hX hW t192 (by decide) rfl) rfl rfl hl.1 rfl (lv_room (Nat.le_of_ble_eq_true rfl)) d_LW_law_579 ⟨(by show _ ≤ 601024; omega), (by show _ ≤ 7293033; omega)⟩) hW (fun h193 H locs hk hW => ?_)
  obtain ⟨w, mm194⟩ := hk
  have w := w mm194
  have hm := hm.tr mm194
  have t195 := mm194.tg t192 (by decide)
  refine lv_aload_n hx hb d_LW_law_582 rfl (lv_at hl 3 rfl) ?_
  refine hb_calli (va_runV (As := []) (rest := []) ⟨hx, hb, hml, hown, hts⟩ (m_MO_thrown G x179 h193 hst w) (cwV 0 hts (zx_gV hT wd_672 wd_673 wd_674 wd_5 wd_675) rfl rfl rfl (by decide +kernel) ⟨Nat.le_of_ble_eq_true rfl, Nat.le_of_ble_eq_true rfl⟩) (hb_preV hK hX hW t195 (by decide) rfl) rfl rfl hl.1 rfl (lv_room (Nat.le_of_ble_eq_true rfl)) d_LW_law_583 ⟨(by show _ ≤ 601024; omega), (by show _ ≤ 7293033; omega)⟩) hW (fun r197 h196 H locs hk hW => ?_)
  obtain ⟨w, mm198⟩ := hk
  have w := w mm198
  have hm := hm.tr mm198
  have t199 := mm198.tg t195 (by decide)
  refine lv_iload hx hb d_LW_law_586 (lv_at hl 0 rfl) ?_
  refine lv_icmp_eq (tgt := 593) hx hb d_LW_law_588 (by decide) (fun c200 => ?_) (fun c200 => ?_)
  · have w := w.1 c200
    refine lv_goto (tgt := 1523) hx hb d_LW_law_593 (by decide) ?_
    exact tb_LW_law_1523 C S (by omega) (by omega) hc_rc_23 x178 x179 x180 x181 h196 _ _ _ w hm hW (lv_sub hl [1, 2, 3, 4, 5] rfl)
  · have w := w.2 c200
    refine lv_iconst (v := 0) hx hb d_LW_law_591 (by decide) ?_
    exact w.elim
set_option maxHeartbeats 4000000 in
set_option maxRecDepth 100000 in
theorem tb_LW_law_596 {p : Program} {l : Launch} {e : Env} {s : State} {m : MethodId} {below : List Frame} {meth : Method} {c : Code} {G : zG} {b L : Nat} {xs : Nat → Int32} (C : cx_C p l s m #[Value.ref b] meth c G x code 8 ret "BigDeskLaw" lw_tbl []) (S : va_X b L xs s s.heap ∧ b < s.heap.size ∧ G.2.2 = s.heap.size) {h0 : ah_H} {cells slots n9 : Nat} (hcl : cells + 3 + 10 * n9 ≤ 601024) (hsl : slots + 18 + 60 * n9 ≤ 7293033) {rc_23 : Nat → Nat → Nat → Int32 → ah_H → Prop} (hc_rc_23 : ∀ (cells slots : Nat), cells + 10 * n9 ≤ 601024 → slots + 60 * n9 ≤ 7293033 → ∀ (z0 : Nat) (z1 : Nat) (z2 : Nat) (z3 : Int32) (hz : ah_H) (H : Heap) (locs : List Loc) (ls : Array Slot), rc_23 z0 z1 z2 z3 hz → ah_m h0 hz → ah_W G s.heap hz H locs → lv_has ls 8 [(0, .ref b), (1, .ref z0), (2, .ref z1), (3, .ref z2), (4, .int z3)] → W p l e room_1 s m #[Value.ref b] below meth c H locs cells slots (lw_Z below #[Value.ref b] s) (F0 m 23 ls [])) (x201 : Nat) (x202 : Nat) (x203 : Nat) (x204 : Int32) (h205 : ah_H) (H : Heap) (locs : List Loc) (ls : Array Slot) (w : bk_LW_law_596 rc_23 L xs x201 x202 x203 x204 h205) (hm : ah_m h0 h205) (hW : ah_W G s.heap h205 H locs) (hl : lv_has ls 8 [(0, .ref b), (1, .ref x201), (2, .ref x202), (3, .ref x203), (4, .int x204)]) : W p l e room_1 s m #[Value.ref b] below meth c H locs cells slots (lw_Z below #[Value.ref b] s) (F0 m 596 ls []) := by
  unfold bk_LW_law_596 at w
  obtain ⟨hx, hb, hr, hml, hown, hts, hT, hlk, hK, hX, htb, hin, hst⟩ := id C
  have hw : ∀ {w9 : Cond}, w9 ∈ zx_T → w9.before _ s = true := fun h9 => hts _ (hT _ h9)
  refine lv_aload_n hx hb d_LW_law_596 rfl (lv_at hl 1 rfl) ?_
  refine lv_aload_n hx hb d_LW_law_597 rfl (lv_at hl 0 rfl) ?_
  refine lv_iload hx hb d_LW_law_598 (lv_at hl 4 rfl) ?_
  refine lv_iconst (v := 1) hx hb d_LW_law_600 (by decide) ?_
  refine lv_iadd hx hb d_LW_law_601 ?_
  obtain ⟨i206, w⟩ := w
  refine va_sld hx hb S.1 S.2.1 (by rw [S.2.2]; exact Nat.not_le.mpr S.2.1) hW.2.2 i206 d_LW_law_602 ?_
  refine lv_aload_n hx hb d_LW_law_603 rfl (lv_at hl 0 rfl) ?_
  refine lv_iload hx hb d_LW_law_604 (lv_at hl 4 rfl) ?_
  refine lv_iconst (v := 2) hx hb d_LW_law_606 (by decide) ?_
  refine lv_iadd hx hb d_LW_law_607 ?_
  obtain ⟨i207, w⟩ := w
  refine va_sld hx hb S.1 S.2.1 (by rw [S.2.2]; exact Nat.not_le.mpr S.2.1) hW.2.2 i207 d_LW_law_608 ?_
  refine lv_aload_n hx hb d_LW_law_609 rfl (lv_at hl 0 rfl) ?_
  refine lv_iload hx hb d_LW_law_610 (lv_at hl 4 rfl) ?_
  refine lv_iconst (v := 3) hx hb d_LW_law_612 (by decide) ?_
  refine lv_iadd hx hb d_LW_law_613 ?_
  obtain ⟨i208, w⟩ := w
  refine va_sld hx hb S.1 S.2.1 (by rw [S.2.2]; exact Nat.not_le.mpr S.2.1) hW.2.2 i208 d_LW_law_614 ?_
  refine hb_calli (vx_runSW (As := [.ref x201, .int (xs (x204 + (1 : Int32)).toNatClampNeg), .int (xs (x204 + (2 : Int32)).toNatClampNeg), .int (xs (x204 + (3 : Int32)).toNatClampNeg)]) (rest := []) ⟨hx, hb, hml, hown, hts⟩ (m_LW_half G x201 (xs (x204 + (1 : Int32)).toNatClampNeg) (xs (x204 + (2 : Int32)).toNatClampNeg) (xs (x204 + (3 : Int32)).toNatClampNeg) h205 hst w) (vx_cwSW 4 hts (zx_gS hT wd_348 wd_349 wd_0 wd_350) rfl rfl rfl (by decide +kernel) ⟨Nat.le_of_ble_eq_true rfl, Nat.le_of_ble_eq_true rfl⟩) (hb_preS hK hX hW) rfl rfl hl.1 rfl (lv_room (Nat.le_of_ble_eq_true rfl)) d_LW_law_615 ⟨(by show _ ≤ 601024; omega), (by show _ ≤ 7293033; omega)⟩) hW (fun r210 h209 H locs hk hW => ?_)
  obtain ⟨w, mm211⟩ := hk
  have w := w mm211
  have hm := hm.tr mm211
  refine lv_istore (lv' := [(5, .int r210), (0, .ref b), (1, .ref x201), (2, .ref x202), (3, .ref x203), (4, .int x204)]) hx hb d_LW_law_618 hl (by decide) rfl (fun ls hl => ?_)
  refine lv_aload_n hx hb d_LW_law_620 rfl (lv_at hl 3 rfl) ?_
  refine lv_aload_n hx hb d_LW_law_621 rfl (lv_at hl 1 rfl) ?_
  refine lv_iload hx hb d_LW_law_622 (lv_at hl 5 rfl) ?_
  refine lv_iconst (v := 1) hx hb d_LW_law_624 (by decide) ?_
  refine lv_iadd hx hb d_LW_law_625 ?_
  obtain ⟨i212, w⟩ := w
  refine va_sld hx hb S.1 S.2.1 (by rw [S.2.2]; exact Nat.not_le.mpr S.2.1) hW.2.2 i212 d_LW_law_626 ?_
  refine lv_aload_n hx hb d_LW_law_627 rfl (lv_at hl 1 rfl) ?_
  refine lv_iload hx hb d_LW_law_628 (lv_at hl 5 rfl) ?_
  refine lv_iconst (v := 2) hx hb d_LW_law_630 (by decide) ?_
  refine lv_iadd hx hb d_LW_law_631 ?_
  obtain ⟨i213, w⟩ := w
  refine va_sld hx hb S.1 S.2.1 (by rw [S.2.2]; exact Nat.not_le.mpr S.2.1) hW.2.2 i213 d_LW_law_632 ?_
  refine lv_aload_n hx hb d_LW_law_633 rfl (lv_at hl 1 rfl) ?_
  refine lv_iload hx hb d_LW_law_634 (lv_at hl 5 rfl) ?_
  refine lv_iconst (v := 3) hx hb d_LW_law_636 (by decide) ?_
  refine lv_iadd hx hb d_LW_law_637 ?_
  obtain ⟨i214, w⟩ := w
  refine va_sld hx hb S.1 S.2.1 (by rw [S.2.2]; exact Nat.not_le.mpr S.2.1) hW.2.2 i214 d_LW_law_638 ?_
  obtain ⟨t215, w⟩ := w
  refine hb_callv (va_runV (As := [.int (xs (x204 + (1 : Int32)).toNatClampNeg), .int (xs (x204 + (2 : Int32)).toNatClampNeg), .int (xs (x204 + (3 : Int32)).toNatClampNeg)]) (rest := []) ⟨hx, hb, hml, hown, hts⟩ (m_MO_half G x202 (xs (x204 + (1 : Int32)).toNatClampNeg) (xs (x204 + (2 : Int32)).toNatClampNeg) (xs (x204 + (3 : Int32)).toNatClampNeg) h209 hst w) (cwV 3 hts (zx_gV hT wd_743 wd_744 wd_745 wd_5 wd_746) rfl rfl rfl (by decide +kernel) ⟨Nat.le_of_ble_eq_true rfl, Nat.le_of_ble_eq_true rfl⟩) (hb_preV hK hX hW t215 (by decide) rfl) rfl rfl hl.1 rfl (lv_room (Nat.le_of_ble_eq_true rfl)) d_LW_law_639 ⟨(by show _ ≤ 601024; omega), (by show _ ≤ 7293033; omega)⟩) hW (fun h216 H locs hk hW => ?_)
  obtain ⟨w, mm217⟩ := hk
  have w := w mm217
  have hm := hm.tr mm217
  have t218 := mm217.tg t215 (by decide)
  refine lv_aload_n hx hb d_LW_law_642 rfl (lv_at hl 3 rfl) ?_
  refine hb_calli (va_runV (As := []) (rest := []) ⟨hx, hb, hml, hown, hts⟩ (m_MO_thrown G x202 h216 hst w) (cwV 0 hts (zx_gV hT wd_672 wd_673 wd_674 wd_5 wd_675) rfl rfl rfl (by decide +kernel) ⟨Nat.le_of_ble_eq_true rfl, Nat.le_of_ble_eq_true rfl⟩) (hb_preV hK hX hW t218 (by decide) rfl) rfl rfl hl.1 rfl (lv_room (Nat.le_of_ble_eq_true rfl)) d_LW_law_643 ⟨(by show _ ≤ 601024; omega), (by show _ ≤ 7293033; omega)⟩) hW (fun r220 h219 H locs hk hW => ?_)
  obtain ⟨w, mm221⟩ := hk
  have w := w mm221
  have hm := hm.tr mm221
  have t222 := mm221.tg t218 (by decide)
  refine lv_iload hx hb d_LW_law_646 (lv_at hl 0 rfl) ?_
  refine lv_icmp_eq (tgt := 653) hx hb d_LW_law_648 (by decide) (fun c223 => ?_) (fun c223 => ?_)
  · have w := w.1 c223
    refine lv_goto (tgt := 1523) hx hb d_LW_law_653 (by decide) ?_
    exact tb_LW_law_1523 C S (by omega) (by omega) hc_rc_23 x201 x202 x203 x204 h219 _ _ _ w hm hW (lv_sub hl [1, 2, 3, 4, 5] rfl)
  · have w := w.2 c223
    refine lv_iconst (v := 0) hx hb d_LW_law_651 (by decide) ?_
    exact w.elim
set_option maxHeartbeats 4000000 in
set_option maxRecDepth 100000 in
theorem tb_LW_law_656 {p : Program} {l : Launch} {e : Env} {s : State} {m : MethodId} {below : List Frame} {meth : Method} {c : Code} {G : zG} {b L : Nat} {xs : Nat → Int32} (C : cx_C p l s m #[Value.ref b] meth c G x code 8 ret "BigDeskLaw" lw_tbl []) (S : va_X b L xs s s.heap ∧ b < s.heap.size ∧ G.2.2 = s.heap.size) {h0 : ah_H} {cells slots n9 : Nat} (hcl : cells + 5 + 10 * n9 ≤ 601024) (hsl : slots + 30 + 60 * n9 ≤ 7293033) {rc_23 : Nat → Nat → Nat → Int32 → ah_H → Prop} (hc_rc_23 : ∀ (cells slots : Nat), cells + 10 * n9 ≤ 601024 → slots + 60 * n9 ≤ 7293033 → ∀ (z0 : Nat) (z1 : Nat) (z2 : Nat) (z3 : Int32) (hz : ah_H) (H : Heap) (locs : List Loc) (ls : Array Slot), rc_23 z0 z1 z2 z3 hz → ah_m h0 hz → ah_W G s.heap hz H locs → lv_has ls 8 [(0, .ref b), (1, .ref z0), (2, .ref z1), (3, .ref z2), (4, .int z3)] → W p l e room_1 s m #[Value.ref b] below meth c H locs cells slots (lw_Z below #[Value.ref b] s) (F0 m 23 ls [])) (x224 : Nat) (x225 : Nat) (x226 : Nat) (x227 : Int32) (h228 : ah_H) (H : Heap) (locs : List Loc) (ls : Array Slot) (w : bk_LW_law_656 rc_23 L xs x224 x225 x226 x227 h228) (hm : ah_m h0 h228) (hW : ah_W G s.heap h228 H locs) (hl : lv_has ls 8 [(0, .ref b), (1, .ref x224), (2, .ref x225), (3, .ref x226), (4, .int x227)]) : W p l e room_1 s m #[Value.ref b] below meth c H locs cells slots (lw_Z below #[Value.ref b] s) (F0 m 656 ls []) := by
  unfold bk_LW_law_656 at w
  obtain ⟨hx, hb, hr, hml, hown, hts, hT, hlk, hK, hX, htb, hin, hst⟩ := id C
  have hw : ∀ {w9 : Cond}, w9 ∈ zx_T → w9.before _ s = true := fun h9 => hts _ (hT _ h9)
  refine lv_aload_n hx hb d_LW_law_656 rfl (lv_at hl 1 rfl) ?_
  refine lv_aload_n hx hb d_LW_law_657 rfl (lv_at hl 0 rfl) ?_
  refine lv_iload hx hb d_LW_law_658 (lv_at hl 4 rfl) ?_
  refine lv_iconst (v := 1) hx hb d_LW_law_660 (by decide) ?_
  refine lv_iadd hx hb d_LW_law_661 ?_
  obtain ⟨i229, w⟩ := w
  refine va_sld hx hb S.1 S.2.1 (by rw [S.2.2]; exact Nat.not_le.mpr S.2.1) hW.2.2 i229 d_LW_law_662 ?_
  refine lv_aload_n hx hb d_LW_law_663 rfl (lv_at hl 0 rfl) ?_
  refine lv_iload hx hb d_LW_law_664 (lv_at hl 4 rfl) ?_
  refine lv_iconst (v := 2) hx hb d_LW_law_666 (by decide) ?_
  refine lv_iadd hx hb d_LW_law_667 ?_
  obtain ⟨i230, w⟩ := w
  refine va_sld hx hb S.1 S.2.1 (by rw [S.2.2]; exact Nat.not_le.mpr S.2.1) hW.2.2 i230 d_LW_law_668 ?_
  refine lv_aload_n hx hb d_LW_law_669 rfl (lv_at hl 0 rfl) ?_
  refine lv_iload hx hb d_LW_law_670 (lv_at hl 4 rfl) ?_
  refine lv_iconst (v := 3) hx hb d_LW_law_672 (by decide) ?_
  refine lv_iadd hx hb d_LW_law_673 ?_
  obtain ⟨i231, w⟩ := w
  refine va_sld hx hb S.1 S.2.1 (by rw [S.2.2]; exact Nat.not_le.mpr S.2.1) hW.2.2 i231 d_LW_law_674 ?_
  refine lv_aload_n hx hb d_LW_law_675 rfl (lv_at hl 0 rfl) ?_
  refine lv_iload hx hb d_LW_law_676 (lv_at hl 4 rfl) ?_
  refine lv_iconst (v := 4) hx hb d_LW_law_678 (by decide) ?_
  refine lv_iadd hx hb d_LW_law_679 ?_
  obtain ⟨i232, w⟩ := w
  refine va_sld hx hb S.1 S.2.1 (by rw [S.2.2]; exact Nat.not_le.mpr S.2.1) hW.2.2 i232 d_LW_law_680 ?_
  refine hb_calli (vx_runSW (As := [.ref x224, .int (xs (x227 + (1 : Int32)).toNatClampNeg), .int (xs (x227 + (2 : Int32)).toNatClampNeg), .int (xs (x227 + (3 : Int32)).toNatClampNeg), .int (xs (x227 + (4 : Int32)).toNatClampNeg)]) (rest := []) ⟨hx, hb, hml, hown, hts⟩ (m_LW_divide G x224 (xs (x227 + (1 : Int32)).toNatClampNeg) (xs (x227 + (2 : Int32)).toNatClampNeg) (xs (x227 + (3 : Int32)).toNatClampNeg) (xs (x227 + (4 : Int32)).toNatClampNeg) h228 hst w) (vx_cwSW 5 hts (zx_gS hT wd_375 wd_376 wd_0 wd_377) rfl rfl rfl (by decide +kernel) ⟨Nat.le_of_ble_eq_true rfl, Nat.le_of_ble_eq_true rfl⟩) (hb_preS hK hX hW) rfl rfl hl.1 rfl (lv_room (Nat.le_of_ble_eq_true rfl)) d_LW_law_681 ⟨(by show _ ≤ 601024; omega), (by show _ ≤ 7293033; omega)⟩) hW (fun r234 h233 H locs hk hW => ?_)
  obtain ⟨w, mm235⟩ := hk
  have w := w mm235
  have hm := hm.tr mm235
  refine lv_istore (lv' := [(5, .int r234), (0, .ref b), (1, .ref x224), (2, .ref x225), (3, .ref x226), (4, .int x227)]) hx hb d_LW_law_684 hl (by decide) rfl (fun ls hl => ?_)
  refine lv_aload_n hx hb d_LW_law_686 rfl (lv_at hl 3 rfl) ?_
  refine lv_aload_n hx hb d_LW_law_687 rfl (lv_at hl 1 rfl) ?_
  refine lv_iload hx hb d_LW_law_688 (lv_at hl 5 rfl) ?_
  refine lv_iconst (v := 1) hx hb d_LW_law_690 (by decide) ?_
  refine lv_iadd hx hb d_LW_law_691 ?_
  obtain ⟨i236, w⟩ := w
  refine va_sld hx hb S.1 S.2.1 (by rw [S.2.2]; exact Nat.not_le.mpr S.2.1) hW.2.2 i236 d_LW_law_692 ?_
  refine lv_aload_n hx hb d_LW_law_693 rfl (lv_at hl 1 rfl) ?_
  refine lv_iload hx hb d_LW_law_694 (lv_at hl 5 rfl) ?_
  refine lv_iconst (v := 2) hx hb d_LW_law_696 (by decide) ?_
  refine lv_iadd hx hb d_LW_law_697 ?_
  obtain ⟨i237, w⟩ := w
  refine va_sld hx hb S.1 S.2.1 (by rw [S.2.2]; exact Nat.not_le.mpr S.2.1) hW.2.2 i237 d_LW_law_698 ?_
  refine lv_aload_n hx hb d_LW_law_699 rfl (lv_at hl 1 rfl) ?_
  refine lv_iload hx hb d_LW_law_700 (lv_at hl 5 rfl) ?_
  refine lv_iconst (v := 3) hx hb d_LW_law_702 (by decide) ?_
  refine lv_iadd hx hb d_LW_law_703 ?_
  obtain ⟨i238, w⟩ := w
  refine va_sld hx hb S.1 S.2.1 (by rw [S.2.2]; exact Nat.not_le.mpr S.2.1) hW.2.2 i238 d_LW_law_704 ?_
  refine lv_aload_n hx hb d_LW_law_705 rfl (lv_at hl 1 rfl) ?_
  refine lv_iload hx hb d_LW_law_706 (lv_at hl 5 rfl) ?_
  refine lv_iconst (v := 4) hx hb d_LW_law_708 (by decide) ?_
  refine lv_iadd hx hb d_LW_law_709 ?_
  obtain ⟨i239, w⟩ := w
  refine va_sld hx hb S.1 S.2.1 (by rw [S.2.2]; exact Nat.not_le.mpr S.2.1) hW.2.2 i239 d_LW_law_710 ?_
  obtain ⟨t240, w⟩ := w
  refine hb_callv (va_runV (As := [.int (xs (x227 + (1 : Int32)).toNatClampNeg), .int (xs (x227 + (2 : Int32)).toNatClampNeg), .int (xs (x227 + (3 : Int32)).toNatClampNeg), .int (xs (x227 + (4 : Int32)).toNatClampNeg)]) (rest := []) ⟨hx, hb, hml, hown, hts⟩ (m_MO_divide G x225 (xs (x227 + (1 : Int32)).toNatClampNeg) (xs (x227 + (2 : Int32)).toNatClampNeg) (xs (x227 + (3 : Int32)).toNatClampNeg) (xs (x227 + (4 : Int32)).toNatClampNeg) h233 hst w) (cwV 4 hts (zx_gV hT wd_752 wd_753 wd_754 wd_5 wd_755) rfl rfl rfl (by decide +kernel) ⟨Nat.le_of_ble_eq_true rfl, Nat.le_of_ble_eq_true rfl⟩) (hb_preV hK hX hW t240 (by decide) rfl) rfl rfl hl.1 rfl (lv_room (Nat.le_of_ble_eq_true rfl)) d_LW_law_711 ⟨(by show _ ≤ 601024; omega), (by show _ ≤ 7293033; omega)⟩) hW (fun h241 H locs hk hW => ?_)
  obtain ⟨w, mm242⟩ := hk
  have w := w mm242
  have hm := hm.tr mm242
  have t243 := mm242.tg t240 (by decide)
  refine lv_aload_n hx hb d_LW_law_714 rfl (lv_at hl 3 rfl) ?_
  refine hb_calli (va_runV (As := []) (rest := []) ⟨hx, hb, hml, hown, hts⟩ (m_MO_thrown G x225 h241 hst w) (cwV 0 hts (zx_gV hT wd_672 wd_673 wd_674 wd_5 wd_675) rfl rfl rfl (by decide +kernel) ⟨Nat.le_of_ble_eq_true rfl, Nat.le_of_ble_eq_true rfl⟩) (hb_preV hK hX hW t243 (by decide) rfl) rfl rfl hl.1 rfl (lv_room (Nat.le_of_ble_eq_true rfl)) d_LW_law_715 ⟨(by show _ ≤ 601024; omega), (by show _ ≤ 7293033; omega)⟩) hW (fun r245 h244 H locs hk hW => ?_)
  obtain ⟨w, mm246⟩ := hk
  have w := w mm246
  have hm := hm.tr mm246
  have t247 := mm246.tg t243 (by decide)
  refine lv_iload hx hb d_LW_law_718 (lv_at hl 0 rfl) ?_
  refine lv_icmp_eq (tgt := 725) hx hb d_LW_law_720 (by decide) (fun c248 => ?_) (fun c248 => ?_)
  · have w := w.1 c248
    refine lv_goto (tgt := 1523) hx hb d_LW_law_725 (by decide) ?_
    exact tb_LW_law_1523 C S (by omega) (by omega) hc_rc_23 x224 x225 x226 x227 h244 _ _ _ w hm hW (lv_sub hl [1, 2, 3, 4, 5] rfl)
  · have w := w.2 c248
    refine lv_iconst (v := 0) hx hb d_LW_law_723 (by decide) ?_
    exact w.elim
set_option maxHeartbeats 4000000 in
set_option maxRecDepth 100000 in
theorem tb_LW_law_728 {p : Program} {l : Launch} {e : Env} {s : State} {m : MethodId} {below : List Frame} {meth : Method} {c : Code} {G : zG} {b L : Nat} {xs : Nat → Int32} (C : cx_C p l s m #[Value.ref b] meth c G x code 8 ret "BigDeskLaw" lw_tbl []) (S : va_X b L xs s s.heap ∧ b < s.heap.size ∧ G.2.2 = s.heap.size) {h0 : ah_H} {cells slots n9 : Nat} (hcl : cells + 3 + 10 * n9 ≤ 601024) (hsl : slots + 18 + 60 * n9 ≤ 7293033) {rc_23 : Nat → Nat → Nat → Int32 → ah_H → Prop} (hc_rc_23 : ∀ (cells slots : Nat), cells + 10 * n9 ≤ 601024 → slots + 60 * n9 ≤ 7293033 → ∀ (z0 : Nat) (z1 : Nat) (z2 : Nat) (z3 : Int32) (hz : ah_H) (H : Heap) (locs : List Loc) (ls : Array Slot), rc_23 z0 z1 z2 z3 hz → ah_m h0 hz → ah_W G s.heap hz H locs → lv_has ls 8 [(0, .ref b), (1, .ref z0), (2, .ref z1), (3, .ref z2), (4, .int z3)] → W p l e room_1 s m #[Value.ref b] below meth c H locs cells slots (lw_Z below #[Value.ref b] s) (F0 m 23 ls [])) (x249 : Nat) (x250 : Nat) (x251 : Nat) (x252 : Int32) (h253 : ah_H) (H : Heap) (locs : List Loc) (ls : Array Slot) (w : bk_LW_law_728 rc_23 L xs x249 x250 x251 x252 h253) (hm : ah_m h0 h253) (hW : ah_W G s.heap h253 H locs) (hl : lv_has ls 8 [(0, .ref b), (1, .ref x249), (2, .ref x250), (3, .ref x251), (4, .int x252)]) : W p l e room_1 s m #[Value.ref b] below meth c H locs cells slots (lw_Z below #[Value.ref b] s) (F0 m 728 ls []) := by
  unfold bk_LW_law_728 at w
  obtain ⟨hx, hb, hr, hml, hown, hts, hT, hlk, hK, hX, htb, hin, hst⟩ := id C
  have hw : ∀ {w9 : Cond}, w9 ∈ zx_T → w9.before _ s = true := fun h9 => hts _ (hT _ h9)
  refine lv_aload_n hx hb d_LW_law_728 rfl (lv_at hl 1 rfl) ?_
  refine lv_aload_n hx hb d_LW_law_729 rfl (lv_at hl 0 rfl) ?_
  refine lv_iload hx hb d_LW_law_730 (lv_at hl 4 rfl) ?_
  refine lv_iconst (v := 1) hx hb d_LW_law_732 (by decide) ?_
  refine lv_iadd hx hb d_LW_law_733 ?_
  obtain ⟨i254, w⟩ := w
  refine va_sld hx hb S.1 S.2.1 (by rw [S.2.2]; exact Nat.not_le.mpr S.2.1) hW.2.2 i254 d_LW_law_734 ?_
  refine lv_aload_n hx hb d_LW_law_735 rfl (lv_at hl 0 rfl) ?_
  refine lv_iload hx hb d_LW_law_736 (lv_at hl 4 rfl) ?_
  refine lv_iconst (v := 2) hx hb d_LW_law_738 (by decide) ?_
  refine lv_iadd hx hb d_LW_law_739 ?_
  obtain ⟨i255, w⟩ := w
  refine va_sld hx hb S.1 S.2.1 (by rw [S.2.2]; exact Nat.not_le.mpr S.2.1) hW.2.2 i255 d_LW_law_740 ?_
  refine lv_aload_n hx hb d_LW_law_741 rfl (lv_at hl 0 rfl) ?_
  refine lv_iload hx hb d_LW_law_742 (lv_at hl 4 rfl) ?_
  refine lv_iconst (v := 3) hx hb d_LW_law_744 (by decide) ?_
  refine lv_iadd hx hb d_LW_law_745 ?_
  obtain ⟨i256, w⟩ := w
  refine va_sld hx hb S.1 S.2.1 (by rw [S.2.2]; exact Nat.not_le.mpr S.2.1) hW.2.2 i256 d_LW_law_746 ?_
  refine hb_calli (vx_runSW (As := [.ref x249, .int (xs (x252 + (1 : Int32)).toNatClampNeg), .int (xs (x252 + (2 : Int32)).toNatClampNeg), .int (xs (x252 + (3 : Int32)).toNatClampNeg)]) (rest := []) ⟨hx, hb, hml, hown, hts⟩ (m_LW_gcd G x249 (xs (x252 + (1 : Int32)).toNatClampNeg) (xs (x252 + (2 : Int32)).toNatClampNeg) (xs (x252 + (3 : Int32)).toNatClampNeg) h253 hst w) (vx_cwSW 4 hts (zx_gS hT wd_442 wd_443 wd_0 wd_444) rfl rfl rfl (by decide +kernel) ⟨Nat.le_of_ble_eq_true rfl, Nat.le_of_ble_eq_true rfl⟩) (hb_preS hK hX hW) rfl rfl hl.1 rfl (lv_room (Nat.le_of_ble_eq_true rfl)) d_LW_law_747 ⟨(by show _ ≤ 601024; omega), (by show _ ≤ 7293033; omega)⟩) hW (fun r258 h257 H locs hk hW => ?_)
  obtain ⟨w, mm259⟩ := hk
  have w := w mm259
  have hm := hm.tr mm259
  refine lv_istore (lv' := [(5, .int r258), (0, .ref b), (1, .ref x249), (2, .ref x250), (3, .ref x251), (4, .int x252)]) hx hb d_LW_law_750 hl (by decide) rfl (fun ls hl => ?_)
  refine lv_aload_n hx hb d_LW_law_752 rfl (lv_at hl 3 rfl) ?_
  refine lv_aload_n hx hb d_LW_law_753 rfl (lv_at hl 1 rfl) ?_
  refine lv_iload hx hb d_LW_law_754 (lv_at hl 5 rfl) ?_
  refine lv_iconst (v := 1) hx hb d_LW_law_756 (by decide) ?_
  refine lv_iadd hx hb d_LW_law_757 ?_
  obtain ⟨i260, w⟩ := w
  refine va_sld hx hb S.1 S.2.1 (by rw [S.2.2]; exact Nat.not_le.mpr S.2.1) hW.2.2 i260 d_LW_law_758 ?_
  refine lv_aload_n hx hb d_LW_law_759 rfl (lv_at hl 1 rfl) ?_
  refine lv_iload hx hb d_LW_law_760 (lv_at hl 5 rfl) ?_
  refine lv_iconst (v := 2) hx hb d_LW_law_762 (by decide) ?_
  refine lv_iadd hx hb d_LW_law_763 ?_
  obtain ⟨i261, w⟩ := w
  refine va_sld hx hb S.1 S.2.1 (by rw [S.2.2]; exact Nat.not_le.mpr S.2.1) hW.2.2 i261 d_LW_law_764 ?_
  refine lv_aload_n hx hb d_LW_law_765 rfl (lv_at hl 1 rfl) ?_
  refine lv_iload hx hb d_LW_law_766 (lv_at hl 5 rfl) ?_
  refine lv_iconst (v := 3) hx hb d_LW_law_768 (by decide) ?_
  refine lv_iadd hx hb d_LW_law_769 ?_
  obtain ⟨i262, w⟩ := w
  refine va_sld hx hb S.1 S.2.1 (by rw [S.2.2]; exact Nat.not_le.mpr S.2.1) hW.2.2 i262 d_LW_law_770 ?_
  obtain ⟨t263, w⟩ := w
  refine hb_callv (va_runV (As := [.int (xs (x252 + (1 : Int32)).toNatClampNeg), .int (xs (x252 + (2 : Int32)).toNatClampNeg), .int (xs (x252 + (3 : Int32)).toNatClampNeg)]) (rest := []) ⟨hx, hb, hml, hown, hts⟩ (m_MO_gcd G x250 (xs (x252 + (1 : Int32)).toNatClampNeg) (xs (x252 + (2 : Int32)).toNatClampNeg) (xs (x252 + (3 : Int32)).toNatClampNeg) h257 hst w) (cwV 3 hts (zx_gV hT wd_768 wd_769 wd_770 wd_5 wd_771) rfl rfl rfl (by decide +kernel) ⟨Nat.le_of_ble_eq_true rfl, Nat.le_of_ble_eq_true rfl⟩) (hb_preV hK hX hW t263 (by decide) rfl) rfl rfl hl.1 rfl (lv_room (Nat.le_of_ble_eq_true rfl)) d_LW_law_771 ⟨(by show _ ≤ 601024; omega), (by show _ ≤ 7293033; omega)⟩) hW (fun h264 H locs hk hW => ?_)
  obtain ⟨w, mm265⟩ := hk
  have w := w mm265
  have hm := hm.tr mm265
  have t266 := mm265.tg t263 (by decide)
  refine lv_aload_n hx hb d_LW_law_774 rfl (lv_at hl 3 rfl) ?_
  refine hb_calli (va_runV (As := []) (rest := []) ⟨hx, hb, hml, hown, hts⟩ (m_MO_thrown G x250 h264 hst w) (cwV 0 hts (zx_gV hT wd_672 wd_673 wd_674 wd_5 wd_675) rfl rfl rfl (by decide +kernel) ⟨Nat.le_of_ble_eq_true rfl, Nat.le_of_ble_eq_true rfl⟩) (hb_preV hK hX hW t266 (by decide) rfl) rfl rfl hl.1 rfl (lv_room (Nat.le_of_ble_eq_true rfl)) d_LW_law_775 ⟨(by show _ ≤ 601024; omega), (by show _ ≤ 7293033; omega)⟩) hW (fun r268 h267 H locs hk hW => ?_)
  obtain ⟨w, mm269⟩ := hk
  have w := w mm269
  have hm := hm.tr mm269
  have t270 := mm269.tg t266 (by decide)
  refine lv_iload hx hb d_LW_law_778 (lv_at hl 0 rfl) ?_
  refine lv_icmp_eq (tgt := 785) hx hb d_LW_law_780 (by decide) (fun c271 => ?_) (fun c271 => ?_)
  · have w := w.1 c271
    refine lv_goto (tgt := 1523) hx hb d_LW_law_785 (by decide) ?_
    exact tb_LW_law_1523 C S (by omega) (by omega) hc_rc_23 x249 x250 x251 x252 h267 _ _ _ w hm hW (lv_sub hl [1, 2, 3, 4, 5] rfl)
  · have w := w.2 c271
    refine lv_iconst (v := 0) hx hb d_LW_law_783 (by decide) ?_
    exact w.elim
set_option maxHeartbeats 4000000 in
set_option maxRecDepth 100000 in
theorem tb_LW_law_788 {p : Program} {l : Launch} {e : Env} {s : State} {m : MethodId} {below : List Frame} {meth : Method} {c : Code} {G : zG} {b L : Nat} {xs : Nat → Int32} (C : cx_C p l s m #[Value.ref b] meth c G x code 8 ret "BigDeskLaw" lw_tbl []) (S : va_X b L xs s s.heap ∧ b < s.heap.size ∧ G.2.2 = s.heap.size) {h0 : ah_H} {cells slots n9 : Nat} (hcl : cells + 2 + 10 * n9 ≤ 601024) (hsl : slots + 12 + 60 * n9 ≤ 7293033) {rc_23 : Nat → Nat → Nat → Int32 → ah_H → Prop} (hc_rc_23 : ∀ (cells slots : Nat), cells + 10 * n9 ≤ 601024 → slots + 60 * n9 ≤ 7293033 → ∀ (z0 : Nat) (z1 : Nat) (z2 : Nat) (z3 : Int32) (hz : ah_H) (H : Heap) (locs : List Loc) (ls : Array Slot), rc_23 z0 z1 z2 z3 hz → ah_m h0 hz → ah_W G s.heap hz H locs → lv_has ls 8 [(0, .ref b), (1, .ref z0), (2, .ref z1), (3, .ref z2), (4, .int z3)] → W p l e room_1 s m #[Value.ref b] below meth c H locs cells slots (lw_Z below #[Value.ref b] s) (F0 m 23 ls [])) (x272 : Nat) (x273 : Nat) (x274 : Nat) (x275 : Int32) (h276 : ah_H) (H : Heap) (locs : List Loc) (ls : Array Slot) (w : bk_LW_law_788 rc_23 L xs x272 x273 x274 x275 h276) (hm : ah_m h0 h276) (hW : ah_W G s.heap h276 H locs) (hl : lv_has ls 8 [(0, .ref b), (1, .ref x272), (2, .ref x273), (3, .ref x274), (4, .int x275)]) : W p l e room_1 s m #[Value.ref b] below meth c H locs cells slots (lw_Z below #[Value.ref b] s) (F0 m 788 ls []) := by
  unfold bk_LW_law_788 at w
  obtain ⟨hx, hb, hr, hml, hown, hts, hT, hlk, hK, hX, htb, hin, hst⟩ := id C
  have hw : ∀ {w9 : Cond}, w9 ∈ zx_T → w9.before _ s = true := fun h9 => hts _ (hT _ h9)
  refine lv_aload_n hx hb d_LW_law_788 rfl (lv_at hl 1 rfl) ?_
  refine lv_aload_n hx hb d_LW_law_789 rfl (lv_at hl 0 rfl) ?_
  refine lv_iload hx hb d_LW_law_790 (lv_at hl 4 rfl) ?_
  refine lv_iconst (v := 1) hx hb d_LW_law_792 (by decide) ?_
  refine lv_iadd hx hb d_LW_law_793 ?_
  obtain ⟨i277, w⟩ := w
  refine va_sld hx hb S.1 S.2.1 (by rw [S.2.2]; exact Nat.not_le.mpr S.2.1) hW.2.2 i277 d_LW_law_794 ?_
  refine lv_aload_n hx hb d_LW_law_795 rfl (lv_at hl 0 rfl) ?_
  refine lv_iload hx hb d_LW_law_796 (lv_at hl 4 rfl) ?_
  refine lv_iconst (v := 2) hx hb d_LW_law_798 (by decide) ?_
  refine lv_iadd hx hb d_LW_law_799 ?_
  obtain ⟨i278, w⟩ := w
  refine va_sld hx hb S.1 S.2.1 (by rw [S.2.2]; exact Nat.not_le.mpr S.2.1) hW.2.2 i278 d_LW_law_800 ?_
  refine hb_calli (vx_runSW (As := [.ref x272, .int (xs (x275 + (1 : Int32)).toNatClampNeg), .int (xs (x275 + (2 : Int32)).toNatClampNeg)]) (rest := []) ⟨hx, hb, hml, hown, hts⟩ (m_LW_negate G x272 (xs (x275 + (1 : Int32)).toNatClampNeg) (xs (x275 + (2 : Int32)).toNatClampNeg) h276 hst w) (vx_cwSW 3 hts (zx_gS hT wd_481 wd_482 wd_0 wd_483) rfl rfl rfl (by decide +kernel) ⟨Nat.le_of_ble_eq_true rfl, Nat.le_of_ble_eq_true rfl⟩) (hb_preS hK hX hW) rfl rfl hl.1 rfl (lv_room (Nat.le_of_ble_eq_true rfl)) d_LW_law_801 ⟨(by show _ ≤ 601024; omega), (by show _ ≤ 7293033; omega)⟩) hW (fun r280 h279 H locs hk hW => ?_)
  obtain ⟨w, mm281⟩ := hk
  have w := w mm281
  have hm := hm.tr mm281
  refine lv_istore (lv' := [(5, .int r280), (0, .ref b), (1, .ref x272), (2, .ref x273), (3, .ref x274), (4, .int x275)]) hx hb d_LW_law_804 hl (by decide) rfl (fun ls hl => ?_)
  refine lv_aload_n hx hb d_LW_law_806 rfl (lv_at hl 3 rfl) ?_
  refine lv_aload_n hx hb d_LW_law_807 rfl (lv_at hl 1 rfl) ?_
  refine lv_iload hx hb d_LW_law_808 (lv_at hl 5 rfl) ?_
  refine lv_iconst (v := 1) hx hb d_LW_law_810 (by decide) ?_
  refine lv_iadd hx hb d_LW_law_811 ?_
  obtain ⟨i282, w⟩ := w
  refine va_sld hx hb S.1 S.2.1 (by rw [S.2.2]; exact Nat.not_le.mpr S.2.1) hW.2.2 i282 d_LW_law_812 ?_
  refine lv_aload_n hx hb d_LW_law_813 rfl (lv_at hl 1 rfl) ?_
  refine lv_iload hx hb d_LW_law_814 (lv_at hl 5 rfl) ?_
  refine lv_iconst (v := 2) hx hb d_LW_law_816 (by decide) ?_
  refine lv_iadd hx hb d_LW_law_817 ?_
  obtain ⟨i283, w⟩ := w
  refine va_sld hx hb S.1 S.2.1 (by rw [S.2.2]; exact Nat.not_le.mpr S.2.1) hW.2.2 i283 d_LW_law_818 ?_
  obtain ⟨t284, w⟩ := w
  refine hb_callv (va_runV (As := [.int (xs (x275 + (1 : Int32)).toNatClampNeg), .int (xs (x275 + (2 : Int32)).toNatClampNeg)]) (rest := []) ⟨hx, hb, hml, hown, hts⟩ (m_MO_negate G x273 (xs (x275 + (1 : Int32)).toNatClampNeg) (xs (x275 + (2 : Int32)).toNatClampNeg) h279 hst w) (cwV 2 hts (zx_gV hT wd_772 wd_773 wd_774 wd_5 wd_775) rfl rfl rfl (by decide +kernel) ⟨Nat.le_of_ble_eq_true rfl, Nat.le_of_ble_eq_true rfl⟩) (hb_preV hK hX hW t284 (by decide) rfl) rfl rfl hl.1 rfl (lv_room (Nat.le_of_ble_eq_true rfl)) d_LW_law_819 ⟨(by show _ ≤ 601024; omega), (by show _ ≤ 7293033; omega)⟩) hW (fun h285 H locs hk hW => ?_)
  obtain ⟨w, mm286⟩ := hk
  have w := w mm286
  have hm := hm.tr mm286
  have t287 := mm286.tg t284 (by decide)
  refine lv_aload_n hx hb d_LW_law_822 rfl (lv_at hl 3 rfl) ?_
  refine hb_calli (va_runV (As := []) (rest := []) ⟨hx, hb, hml, hown, hts⟩ (m_MO_thrown G x273 h285 hst w) (cwV 0 hts (zx_gV hT wd_672 wd_673 wd_674 wd_5 wd_675) rfl rfl rfl (by decide +kernel) ⟨Nat.le_of_ble_eq_true rfl, Nat.le_of_ble_eq_true rfl⟩) (hb_preV hK hX hW t287 (by decide) rfl) rfl rfl hl.1 rfl (lv_room (Nat.le_of_ble_eq_true rfl)) d_LW_law_823 ⟨(by show _ ≤ 601024; omega), (by show _ ≤ 7293033; omega)⟩) hW (fun r289 h288 H locs hk hW => ?_)
  obtain ⟨w, mm290⟩ := hk
  have w := w mm290
  have hm := hm.tr mm290
  have t291 := mm290.tg t287 (by decide)
  refine lv_iload hx hb d_LW_law_826 (lv_at hl 0 rfl) ?_
  refine lv_icmp_eq (tgt := 833) hx hb d_LW_law_828 (by decide) (fun c292 => ?_) (fun c292 => ?_)
  · have w := w.1 c292
    refine lv_goto (tgt := 1523) hx hb d_LW_law_833 (by decide) ?_
    exact tb_LW_law_1523 C S (by omega) (by omega) hc_rc_23 x272 x273 x274 x275 h288 _ _ _ w hm hW (lv_sub hl [1, 2, 3, 4, 5] rfl)
  · have w := w.2 c292
    refine lv_iconst (v := 0) hx hb d_LW_law_831 (by decide) ?_
    exact w.elim
set_option maxHeartbeats 4000000 in
set_option maxRecDepth 100000 in
theorem tb_LW_law_901 {p : Program} {l : Launch} {e : Env} {s : State} {m : MethodId} {below : List Frame} {meth : Method} {c : Code} {G : zG} {b L : Nat} {xs : Nat → Int32} (C : cx_C p l s m #[Value.ref b] meth c G x code 8 ret "BigDeskLaw" lw_tbl []) (S : va_X b L xs s s.heap ∧ b < s.heap.size ∧ G.2.2 = s.heap.size) {h0 : ah_H} {cells slots n9 : Nat} (hcl : cells + 0 + 10 * n9 ≤ 601024) (hsl : slots + 0 + 60 * n9 ≤ 7293033) {rc_23 : Nat → Nat → Nat → Int32 → ah_H → Prop} (hc_rc_23 : ∀ (cells slots : Nat), cells + 10 * n9 ≤ 601024 → slots + 60 * n9 ≤ 7293033 → ∀ (z0 : Nat) (z1 : Nat) (z2 : Nat) (z3 : Int32) (hz : ah_H) (H : Heap) (locs : List Loc) (ls : Array Slot), rc_23 z0 z1 z2 z3 hz → ah_m h0 hz → ah_W G s.heap hz H locs → lv_has ls 8 [(0, .ref b), (1, .ref z0), (2, .ref z1), (3, .ref z2), (4, .int z3)] → W p l e room_1 s m #[Value.ref b] below meth c H locs cells slots (lw_Z below #[Value.ref b] s) (F0 m 23 ls [])) (x316 : Nat) (x317 : Nat) (x318 : Nat) (x319 : Int32) (h320 : ah_H) (H : Heap) (locs : List Loc) (ls : Array Slot) (w : bk_LW_law_901 rc_23 L xs x316 x317 x318 x319 h320) (hm : ah_m h0 h320) (hW : ah_W G s.heap h320 H locs) (hl : lv_has ls 8 [(0, .ref b), (1, .ref x316), (2, .ref x317), (3, .ref x318), (4, .int x319)]) : W p l e room_1 s m #[Value.ref b] below meth c H locs cells slots (lw_Z below #[Value.ref b] s) (F0 m 901 ls []) := by
  unfold bk_LW_law_901 at w
  obtain ⟨hx, hb, hr, hml, hown, hts, hT, hlk, hK, hX, htb, hin, hst⟩ := id C
  have hw : ∀ {w9 : Cond}, w9 ∈ zx_T → w9.before _ s = true := fun h9 => hts _ (hT _ h9)
  refine lv_goto (tgt := 1523) hx hb d_LW_law_901 (by decide) ?_
  exact tb_LW_law_1523 C S (by omega) (by omega) hc_rc_23 x316 x317 x318 x319 h320 _ _ _ w hm hW (lv_sub hl [0, 1, 2, 3, 4] rfl)
set_option maxHeartbeats 4000000 in
set_option maxRecDepth 100000 in
theorem tb_LW_law_836 {p : Program} {l : Launch} {e : Env} {s : State} {m : MethodId} {below : List Frame} {meth : Method} {c : Code} {G : zG} {b L : Nat} {xs : Nat → Int32} (C : cx_C p l s m #[Value.ref b] meth c G x code 8 ret "BigDeskLaw" lw_tbl []) (S : va_X b L xs s s.heap ∧ b < s.heap.size ∧ G.2.2 = s.heap.size) {h0 : ah_H} {cells slots n9 : Nat} (hcl : cells + 2 + 10 * n9 ≤ 601024) (hsl : slots + 12 + 60 * n9 ≤ 7293033) {rc_23 : Nat → Nat → Nat → Int32 → ah_H → Prop} (hc_rc_23 : ∀ (cells slots : Nat), cells + 10 * n9 ≤ 601024 → slots + 60 * n9 ≤ 7293033 → ∀ (z0 : Nat) (z1 : Nat) (z2 : Nat) (z3 : Int32) (hz : ah_H) (H : Heap) (locs : List Loc) (ls : Array Slot), rc_23 z0 z1 z2 z3 hz → ah_m h0 hz → ah_W G s.heap hz H locs → lv_has ls 8 [(0, .ref b), (1, .ref z0), (2, .ref z1), (3, .ref z2), (4, .int z3)] → W p l e room_1 s m #[Value.ref b] below meth c H locs cells slots (lw_Z below #[Value.ref b] s) (F0 m 23 ls [])) (x293 : Nat) (x294 : Nat) (x295 : Nat) (x296 : Int32) (h297 : ah_H) (H : Heap) (locs : List Loc) (ls : Array Slot) (w : bk_LW_law_836 rc_23 L xs x293 x294 x295 x296 h297) (hm : ah_m h0 h297) (hW : ah_W G s.heap h297 H locs) (hl : lv_has ls 8 [(0, .ref b), (1, .ref x293), (2, .ref x294), (3, .ref x295), (4, .int x296)]) : W p l e room_1 s m #[Value.ref b] below meth c H locs cells slots (lw_Z below #[Value.ref b] s) (F0 m 836 ls []) := by
  unfold bk_LW_law_836 at w
  obtain ⟨hx, hb, hr, hml, hown, hts, hT, hlk, hK, hX, htb, hin, hst⟩ := id C
  have hw : ∀ {w9 : Cond}, w9 ∈ zx_T → w9.before _ s = true := fun h9 => hts _ (hT _ h9)
  refine lv_aload_n hx hb d_LW_law_836 rfl (lv_at hl 1 rfl) ?_
  refine lv_aload_n hx hb d_LW_law_837 rfl (lv_at hl 0 rfl) ?_
  refine lv_iload hx hb d_LW_law_838 (lv_at hl 4 rfl) ?_
  refine lv_iconst (v := 1) hx hb d_LW_law_840 (by decide) ?_
  refine lv_iadd hx hb d_LW_law_841 ?_
  obtain ⟨i298, w⟩ := w
  refine va_sld hx hb S.1 S.2.1 (by rw [S.2.2]; exact Nat.not_le.mpr S.2.1) hW.2.2 i298 d_LW_law_842 ?_
  refine lv_aload_n hx hb d_LW_law_843 rfl (lv_at hl 0 rfl) ?_
  refine lv_iload hx hb d_LW_law_844 (lv_at hl 4 rfl) ?_
  refine lv_iconst (v := 2) hx hb d_LW_law_846 (by decide) ?_
  refine lv_iadd hx hb d_LW_law_847 ?_
  obtain ⟨i299, w⟩ := w
  refine va_sld hx hb S.1 S.2.1 (by rw [S.2.2]; exact Nat.not_le.mpr S.2.1) hW.2.2 i299 d_LW_law_848 ?_
  refine lv_aload_n hx hb d_LW_law_849 rfl (lv_at hl 3 rfl) ?_
  refine hb_calli (vx_runSW (As := [.ref x293, .int (xs (x296 + (1 : Int32)).toNatClampNeg), .int (xs (x296 + (2 : Int32)).toNatClampNeg), .ref x295]) (rest := []) ⟨hx, hb, hml, hown, hts⟩ (m_LW_compare G x293 (xs (x296 + (1 : Int32)).toNatClampNeg) (xs (x296 + (2 : Int32)).toNatClampNeg) x295 h297 hst w) (vx_cwSW 4 hts (zx_gS hT wd_488 wd_489 wd_0 wd_490) rfl rfl rfl (by decide +kernel) ⟨Nat.le_of_ble_eq_true rfl, Nat.le_of_ble_eq_true rfl⟩) (hb_preS hK hX hW) rfl rfl hl.1 rfl (lv_room (Nat.le_of_ble_eq_true rfl)) d_LW_law_850 ⟨(by show _ ≤ 601024; omega), (by show _ ≤ 7293033; omega)⟩) hW (fun r301 h300 H locs hk hW => ?_)
  obtain ⟨w, mm302⟩ := hk
  have w := w mm302
  have hm := hm.tr mm302
  refine lv_istore (lv' := [(5, .int r301), (0, .ref b), (1, .ref x293), (2, .ref x294), (3, .ref x295), (4, .int x296)]) hx hb d_LW_law_853 hl (by decide) rfl (fun ls hl => ?_)
  refine lv_aload_n hx hb d_LW_law_855 rfl (lv_at hl 3 rfl) ?_
  refine lv_aload_n hx hb d_LW_law_856 rfl (lv_at hl 1 rfl) ?_
  refine lv_iload hx hb d_LW_law_857 (lv_at hl 5 rfl) ?_
  refine lv_iconst (v := 1) hx hb d_LW_law_859 (by decide) ?_
  refine lv_iadd hx hb d_LW_law_860 ?_
  obtain ⟨i303, w⟩ := w
  refine va_sld hx hb S.1 S.2.1 (by rw [S.2.2]; exact Nat.not_le.mpr S.2.1) hW.2.2 i303 d_LW_law_861 ?_
  refine lv_aload_n hx hb d_LW_law_862 rfl (lv_at hl 1 rfl) ?_
  refine lv_iload hx hb d_LW_law_863 (lv_at hl 5 rfl) ?_
  refine lv_iconst (v := 2) hx hb d_LW_law_865 (by decide) ?_
  refine lv_iadd hx hb d_LW_law_866 ?_
  obtain ⟨i304, w⟩ := w
  refine va_sld hx hb S.1 S.2.1 (by rw [S.2.2]; exact Nat.not_le.mpr S.2.1) hW.2.2 i304 d_LW_law_867 ?_
  obtain ⟨t305, w⟩ := w
  refine hb_calli (va_runV (As := [.int (xs (x296 + (1 : Int32)).toNatClampNeg), .int (xs (x296 + (2 : Int32)).toNatClampNeg)]) (rest := []) ⟨hx, hb, hml, hown, hts⟩ (m_MO_compare G x294 (xs (x296 + (1 : Int32)).toNatClampNeg) (xs (x296 + (2 : Int32)).toNatClampNeg) h300 hst w) (cwV 2 hts (zx_gV hT wd_776 wd_777 wd_778 wd_5 wd_779) rfl rfl rfl (by decide +kernel) ⟨Nat.le_of_ble_eq_true rfl, Nat.le_of_ble_eq_true rfl⟩) (hb_preV hK hX hW t305 (by decide) rfl) rfl rfl hl.1 rfl (lv_room (Nat.le_of_ble_eq_true rfl)) d_LW_law_868 ⟨(by show _ ≤ 601024; omega), (by show _ ≤ 7293033; omega)⟩) hW (fun r307 h306 H locs hk hW => ?_)
  obtain ⟨w, mm308⟩ := hk
  have w := w mm308
  have hm := hm.tr mm308
  have t309 := mm308.tg t305 (by decide)
  refine lv_istore (lv' := [(6, .int r307), (5, .int r301), (0, .ref b), (1, .ref x293), (2, .ref x294), (3, .ref x295), (4, .int x296)]) hx hb d_LW_law_871 hl (by decide) rfl (fun ls hl => ?_)
  refine lv_aload_n hx hb d_LW_law_873 rfl (lv_at hl 4 rfl) ?_
  refine hb_calli (va_runV (As := []) (rest := []) ⟨hx, hb, hml, hown, hts⟩ (m_MO_thrown G x294 h306 hst w) (cwV 0 hts (zx_gV hT wd_672 wd_673 wd_674 wd_5 wd_675) rfl rfl rfl (by decide +kernel) ⟨Nat.le_of_ble_eq_true rfl, Nat.le_of_ble_eq_true rfl⟩) (hb_preV hK hX hW t309 (by decide) rfl) rfl rfl hl.1 rfl (lv_room (Nat.le_of_ble_eq_true rfl)) d_LW_law_874 ⟨(by show _ ≤ 601024; omega), (by show _ ≤ 7293033; omega)⟩) hW (fun r311 h310 H locs hk hW => ?_)
  obtain ⟨w, mm312⟩ := hk
  have w := w mm312
  have hm := hm.tr mm312
  have t313 := mm312.tg t309 (by decide)
  refine lv_iload hx hb d_LW_law_877 (lv_at hl 1 rfl) ?_
  refine lv_icmp_eq (tgt := 884) hx hb d_LW_law_879 (by decide) (fun c314 => ?_) (fun c314 => ?_)
  · have w := w.1 c314
    refine lv_iload hx hb d_LW_law_884 (lv_at hl 1 rfl) ?_
    refine lv_if_ne (tgt := 901) hx hb d_LW_law_886 (by decide) (fun c315 => ?_) (fun c315 => ?_)
    · have w := w.1 c315
      exact tb_LW_law_901 C S (by omega) (by omega) hc_rc_23 x293 x294 x295 x296 h310 _ _ _ w hm hW (lv_sub hl [2, 3, 4, 5, 6] rfl)
    · have w := w.2 c315
      refine lv_aload_n hx hb d_LW_law_889 rfl (lv_at hl 5 rfl) ?_
      refine lv_iconst (v := 0) hx hb d_LW_law_890 (by decide) ?_
      obtain ⟨t321, w⟩ := w
      obtain ⟨i322, w⟩ := w
      refine hb_lald hx hb hK hW t321 (by decide) (by decide) 2 rfl i322 d_LW_law_891 ?_
      refine lv_iload hx hb d_LW_law_892 (lv_at hl 0 rfl) ?_
      refine lv_i2l hx hb d_LW_law_894 rfl ?_
      refine hb_lcmp_eq (tgt := 901) hx hb d_LW_law_895 d_LW_law_896 (by decide) (fun c323 => ?_) (fun c323 => ?_)
      · have w := w.1 c323
        exact tb_LW_law_901 C S (by omega) (by omega) hc_rc_23 x293 x294 x295 x296 h310 _ _ _ w hm hW (lv_sub hl [2, 3, 4, 5, 6] rfl)
      · have w := w.2 c323
        refine lv_iconst (v := 0) hx hb d_LW_law_899 (by decide) ?_
        exact w.elim
  · have w := w.2 c314
    refine lv_iconst (v := 0) hx hb d_LW_law_882 (by decide) ?_
    exact w.elim
set_option maxHeartbeats 4000000 in
set_option maxRecDepth 100000 in
theorem tb_LW_law_1000 {p : Program} {l : Launch} {e : Env} {s : State} {m : MethodId} {below : List Frame} {meth : Method} {c : Code} {G : zG} {b L : Nat} {xs : Nat → Int32} (C : cx_C p l s m #[Value.ref b] meth c G x code 8 ret "BigDeskLaw" lw_tbl []) (S : va_X b L xs s s.heap ∧ b < s.heap.size ∧ G.2.2 = s.heap.size) {h0 : ah_H} {cells slots n9 : Nat} (hcl : cells + 0 + 10 * n9 ≤ 601024) (hsl : slots + 0 + 60 * n9 ≤ 7293033) {rc_23 : Nat → Nat → Nat → Int32 → ah_H → Prop} (hc_rc_23 : ∀ (cells slots : Nat), cells + 10 * n9 ≤ 601024 → slots + 60 * n9 ≤ 7293033 → ∀ (z0 : Nat) (z1 : Nat) (z2 : Nat) (z3 : Int32) (hz : ah_H) (H : Heap) (locs : List Loc) (ls : Array Slot), rc_23 z0 z1 z2 z3 hz → ah_m h0 hz → ah_W G s.heap hz H locs → lv_has ls 8 [(0, .ref b), (1, .ref z0), (2, .ref z1), (3, .ref z2), (4, .int z3)] → W p l e room_1 s m #[Value.ref b] below meth c H locs cells slots (lw_Z below #[Value.ref b] s) (F0 m 23 ls [])) (x349 : Nat) (x350 : Nat) (x351 : Nat) (x352 : Int32) (h353 : ah_H) (H : Heap) (locs : List Loc) (ls : Array Slot) (w : bk_LW_law_1000 rc_23 L xs x349 x350 x351 x352 h353) (hm : ah_m h0 h353) (hW : ah_W G s.heap h353 H locs) (hl : lv_has ls 8 [(0, .ref b), (1, .ref x349), (2, .ref x350), (3, .ref x351), (4, .int x352)]) : W p l e room_1 s m #[Value.ref b] below meth c H locs cells slots (lw_Z below #[Value.ref b] s) (F0 m 1000 ls []) := by
  unfold bk_LW_law_1000 at w
  obtain ⟨hx, hb, hr, hml, hown, hts, hT, hlk, hK, hX, htb, hin, hst⟩ := id C
  have hw : ∀ {w9 : Cond}, w9 ∈ zx_T → w9.before _ s = true := fun h9 => hts _ (hT _ h9)
  refine lv_goto (tgt := 1523) hx hb d_LW_law_1000 (by decide) ?_
  exact tb_LW_law_1523 C S (by omega) (by omega) hc_rc_23 x349 x350 x351 x352 h353 _ _ _ w hm hW (lv_sub hl [0, 1, 2, 3, 4] rfl)
set_option maxHeartbeats 4000000 in
set_option maxRecDepth 100000 in
theorem tb_LW_law_904 {p : Program} {l : Launch} {e : Env} {s : State} {m : MethodId} {below : List Frame} {meth : Method} {c : Code} {G : zG} {b L : Nat} {xs : Nat → Int32} (C : cx_C p l s m #[Value.ref b] meth c G x code 8 ret "BigDeskLaw" lw_tbl []) (S : va_X b L xs s s.heap ∧ b < s.heap.size ∧ G.2.2 = s.heap.size) {h0 : ah_H} {cells slots n9 : Nat} (hcl : cells + 2 + 10 * n9 ≤ 601024) (hsl : slots + 12 + 60 * n9 ≤ 7293033) {rc_23 : Nat → Nat → Nat → Int32 → ah_H → Prop} (hc_rc_23 : ∀ (cells slots : Nat), cells + 10 * n9 ≤ 601024 → slots + 60 * n9 ≤ 7293033 → ∀ (z0 : Nat) (z1 : Nat) (z2 : Nat) (z3 : Int32) (hz : ah_H) (H : Heap) (locs : List Loc) (ls : Array Slot), rc_23 z0 z1 z2 z3 hz → ah_m h0 hz → ah_W G s.heap hz H locs → lv_has ls 8 [(0, .ref b), (1, .ref z0), (2, .ref z1), (3, .ref z2), (4, .int z3)] → W p l e room_1 s m #[Value.ref b] below meth c H locs cells slots (lw_Z below #[Value.ref b] s) (F0 m 23 ls [])) (x324 : Nat) (x325 : Nat) (x326 : Nat) (x327 : Int32) (h328 : ah_H) (H : Heap) (locs : List Loc) (ls : Array Slot) (w : bk_LW_law_904 rc_23 L xs x324 x325 x326 x327 h328) (hm : ah_m h0 h328) (hW : ah_W G s.heap h328 H locs) (hl : lv_has ls 8 [(0, .ref b), (1, .ref x324), (2, .ref x325), (3, .ref x326), (4, .int x327)]) : W p l e room_1 s m #[Value.ref b] below meth c H locs cells slots (lw_Z below #[Value.ref b] s) (F0 m 904 ls []) := by
  unfold bk_LW_law_904 at w
  obtain ⟨hx, hb, hr, hml, hown, hts, hT, hlk, hK, hX, htb, hin, hst⟩ := id C
  have hw : ∀ {w9 : Cond}, w9 ∈ zx_T → w9.before _ s = true := fun h9 => hts _ (hT _ h9)
  refine lv_aload_n hx hb d_LW_law_904 rfl (lv_at hl 1 rfl) ?_
  refine lv_aload_n hx hb d_LW_law_905 rfl (lv_at hl 0 rfl) ?_
  refine lv_iload hx hb d_LW_law_906 (lv_at hl 4 rfl) ?_
  refine lv_iconst (v := 1) hx hb d_LW_law_908 (by decide) ?_
  refine lv_iadd hx hb d_LW_law_909 ?_
  obtain ⟨i329, w⟩ := w
  refine va_sld hx hb S.1 S.2.1 (by rw [S.2.2]; exact Nat.not_le.mpr S.2.1) hW.2.2 i329 d_LW_law_910 ?_
  refine lv_aload_n hx hb d_LW_law_911 rfl (lv_at hl 0 rfl) ?_
  refine lv_iload hx hb d_LW_law_912 (lv_at hl 4 rfl) ?_
  refine lv_iconst (v := 2) hx hb d_LW_law_914 (by decide) ?_
  refine lv_iadd hx hb d_LW_law_915 ?_
  obtain ⟨i330, w⟩ := w
  refine va_sld hx hb S.1 S.2.1 (by rw [S.2.2]; exact Nat.not_le.mpr S.2.1) hW.2.2 i330 d_LW_law_916 ?_
  refine lv_i2l hx hb d_LW_law_917 rfl ?_
  refine lv_bipush (v := 32) hx hb d_LW_law_918 (by decide) ?_
  refine lv_lshl hx hb d_LW_law_920 rfl ?_
  refine lv_aload_n hx hb d_LW_law_921 rfl (lv_at hl 0 rfl) ?_
  refine lv_iload hx hb d_LW_law_922 (lv_at hl 4 rfl) ?_
  refine lv_iconst (v := 3) hx hb d_LW_law_924 (by decide) ?_
  refine lv_iadd hx hb d_LW_law_925 ?_
  obtain ⟨i331, w⟩ := w
  refine va_sld hx hb S.1 S.2.1 (by rw [S.2.2]; exact Nat.not_le.mpr S.2.1) hW.2.2 i331 d_LW_law_926 ?_
  refine lv_i2l hx hb d_LW_law_927 rfl ?_
  refine lv_ldc2 (v := 4294967295) hx hb hown (hw wd_845) d_LW_law_928 ?_
  refine lv_land hx hb d_LW_law_931 ?_
  refine lv_lor hx hb d_LW_law_932 ?_
  refine lv_aload_n hx hb d_LW_law_933 rfl (lv_at hl 3 rfl) ?_
  refine hb_calli (vx_runSW (As := [.ref x324, .int (xs (x327 + (1 : Int32)).toNatClampNeg), .long ((((xs (x327 + (2 : Int32)).toNatClampNeg).toInt64) <<< ((32 : Int32).toInt64 &&& 63)) ||| (((xs (x327 + (3 : Int32)).toNatClampNeg).toInt64) &&& (4294967295 : Int64))), .ref x326]) (rest := []) ⟨hx, hb, hml, hown, hts⟩ (m_LW_rest G x324 (xs (x327 + (1 : Int32)).toNatClampNeg) ((((xs (x327 + (2 : Int32)).toNatClampNeg).toInt64) <<< ((32 : Int32).toInt64 &&& 63)) ||| (((xs (x327 + (3 : Int32)).toNatClampNeg).toInt64) &&& (4294967295 : Int64))) x326 h328 hst w) (vx_cwSW 4 hts (zx_gS hT wd_496 wd_497 wd_0 wd_498) rfl rfl rfl (by decide +kernel) ⟨Nat.le_of_ble_eq_true rfl, Nat.le_of_ble_eq_true rfl⟩) (hb_preS hK hX hW) rfl rfl hl.1 rfl (lv_room (Nat.le_of_ble_eq_true rfl)) d_LW_law_934 ⟨(by show _ ≤ 601024; omega), (by show _ ≤ 7293033; omega)⟩) hW (fun r333 h332 H locs hk hW => ?_)
  obtain ⟨w, mm334⟩ := hk
  have w := w mm334
  have hm := hm.tr mm334
  refine lv_istore (lv' := [(5, .int r333), (0, .ref b), (1, .ref x324), (2, .ref x325), (3, .ref x326), (4, .int x327)]) hx hb d_LW_law_937 hl (by decide) rfl (fun ls hl => ?_)
  refine lv_aload_n hx hb d_LW_law_939 rfl (lv_at hl 3 rfl) ?_
  refine lv_aload_n hx hb d_LW_law_940 rfl (lv_at hl 1 rfl) ?_
  refine lv_iload hx hb d_LW_law_941 (lv_at hl 5 rfl) ?_
  refine lv_iconst (v := 1) hx hb d_LW_law_943 (by decide) ?_
  refine lv_iadd hx hb d_LW_law_944 ?_
  obtain ⟨i335, w⟩ := w
  refine va_sld hx hb S.1 S.2.1 (by rw [S.2.2]; exact Nat.not_le.mpr S.2.1) hW.2.2 i335 d_LW_law_945 ?_
  refine lv_aload_n hx hb d_LW_law_946 rfl (lv_at hl 1 rfl) ?_
  refine lv_iload hx hb d_LW_law_947 (lv_at hl 5 rfl) ?_
  refine lv_iconst (v := 2) hx hb d_LW_law_949 (by decide) ?_
  refine lv_iadd hx hb d_LW_law_950 ?_
  obtain ⟨i336, w⟩ := w
  refine va_sld hx hb S.1 S.2.1 (by rw [S.2.2]; exact Nat.not_le.mpr S.2.1) hW.2.2 i336 d_LW_law_951 ?_
  refine lv_i2l hx hb d_LW_law_952 rfl ?_
  refine lv_bipush (v := 32) hx hb d_LW_law_953 (by decide) ?_
  refine lv_lshl hx hb d_LW_law_955 rfl ?_
  refine lv_aload_n hx hb d_LW_law_956 rfl (lv_at hl 1 rfl) ?_
  refine lv_iload hx hb d_LW_law_957 (lv_at hl 5 rfl) ?_
  refine lv_iconst (v := 3) hx hb d_LW_law_959 (by decide) ?_
  refine lv_iadd hx hb d_LW_law_960 ?_
  obtain ⟨i337, w⟩ := w
  refine va_sld hx hb S.1 S.2.1 (by rw [S.2.2]; exact Nat.not_le.mpr S.2.1) hW.2.2 i337 d_LW_law_961 ?_
  refine lv_i2l hx hb d_LW_law_962 rfl ?_
  refine lv_ldc2 (v := 4294967295) hx hb hown (hw wd_845) d_LW_law_963 ?_
  refine lv_land hx hb d_LW_law_966 ?_
  refine lv_lor hx hb d_LW_law_967 ?_
  obtain ⟨t338, w⟩ := w
  refine hb_calll (va_runV (As := [.int (xs (x327 + (1 : Int32)).toNatClampNeg), .long ((((xs (x327 + (2 : Int32)).toNatClampNeg).toInt64) <<< ((32 : Int32).toInt64 &&& 63)) ||| (((xs (x327 + (3 : Int32)).toNatClampNeg).toInt64) &&& (4294967295 : Int64)))]) (rest := []) ⟨hx, hb, hml, hown, hts⟩ (m_MO_rest G x325 (xs (x327 + (1 : Int32)).toNatClampNeg) ((((xs (x327 + (2 : Int32)).toNatClampNeg).toInt64) <<< ((32 : Int32).toInt64 &&& 63)) ||| (((xs (x327 + (3 : Int32)).toNatClampNeg).toInt64) &&& (4294967295 : Int64))) h332 hst w) (cwV 2 hts (zx_gV hT wd_780 wd_781 wd_782 wd_5 wd_783) rfl rfl rfl (by decide +kernel) ⟨Nat.le_of_ble_eq_true rfl, Nat.le_of_ble_eq_true rfl⟩) (hb_preV hK hX hW t338 (by decide) rfl) rfl rfl hl.1 rfl (lv_room (Nat.le_of_ble_eq_true rfl)) d_LW_law_968 ⟨(by show _ ≤ 601024; omega), (by show _ ≤ 7293033; omega)⟩) hW (fun r340 h339 H locs hk hW => ?_)
  obtain ⟨w, mm341⟩ := hk
  have w := w mm341
  have hm := hm.tr mm341
  have t342 := mm341.tg t338 (by decide)
  refine lv_lstore (lv' := [(6, .long r340), (5, .int r333), (0, .ref b), (1, .ref x324), (2, .ref x325), (3, .ref x326), (4, .int x327)]) hx hb d_LW_law_971 hl (by decide) rfl (fun ls hl => ?_)
  refine lv_aload_n hx hb d_LW_law_973 rfl (lv_at hl 4 rfl) ?_
  refine hb_calli (va_runV (As := []) (rest := []) ⟨hx, hb, hml, hown, hts⟩ (m_MO_thrown G x325 h339 hst w) (cwV 0 hts (zx_gV hT wd_672 wd_673 wd_674 wd_5 wd_675) rfl rfl rfl (by decide +kernel) ⟨Nat.le_of_ble_eq_true rfl, Nat.le_of_ble_eq_true rfl⟩) (hb_preV hK hX hW t342 (by decide) rfl) rfl rfl hl.1 rfl (lv_room (Nat.le_of_ble_eq_true rfl)) d_LW_law_974 ⟨(by show _ ≤ 601024; omega), (by show _ ≤ 7293033; omega)⟩) hW (fun r344 h343 H locs hk hW => ?_)
  obtain ⟨w, mm345⟩ := hk
  have w := w mm345
  have hm := hm.tr mm345
  have t346 := mm345.tg t342 (by decide)
  refine lv_iload hx hb d_LW_law_977 (lv_at hl 1 rfl) ?_
  refine lv_icmp_eq (tgt := 984) hx hb d_LW_law_979 (by decide) (fun c347 => ?_) (fun c347 => ?_)
  · have w := w.1 c347
    refine lv_iload hx hb d_LW_law_984 (lv_at hl 1 rfl) ?_
    refine lv_if_ne (tgt := 1000) hx hb d_LW_law_986 (by decide) (fun c348 => ?_) (fun c348 => ?_)
    · have w := w.1 c348
      exact tb_LW_law_1000 C S (by omega) (by omega) hc_rc_23 x324 x325 x326 x327 h343 _ _ _ w hm hW (lv_sub hl [2, 3, 4, 5, 6] rfl)
    · have w := w.2 c348
      refine lv_aload_n hx hb d_LW_law_989 rfl (lv_at hl 5 rfl) ?_
      refine lv_iconst (v := 0) hx hb d_LW_law_990 (by decide) ?_
      obtain ⟨t354, w⟩ := w
      obtain ⟨i355, w⟩ := w
      refine hb_lald hx hb hK hW t354 (by decide) (by decide) 2 rfl i355 d_LW_law_991 ?_
      refine lv_lload hx hb d_LW_law_992 (lv_at hl 0 rfl) ?_
      refine hb_lcmp_eq (tgt := 1000) hx hb d_LW_law_994 d_LW_law_995 (by decide) (fun c356 => ?_) (fun c356 => ?_)
      · have w := w.1 c356
        exact tb_LW_law_1000 C S (by omega) (by omega) hc_rc_23 x324 x325 x326 x327 h343 _ _ _ w hm hW (lv_sub hl [2, 3, 4, 5, 6] rfl)
      · have w := w.2 c356
        refine lv_iconst (v := 0) hx hb d_LW_law_998 (by decide) ?_
        exact w.elim
  · have w := w.2 c347
    refine lv_iconst (v := 0) hx hb d_LW_law_982 (by decide) ?_
    exact w.elim
set_option maxHeartbeats 4000000 in
set_option maxRecDepth 100000 in
theorem tb_LW_law_1055 {p : Program} {l : Launch} {e : Env} {s : State} {m : MethodId} {below : List Frame} {meth : Method} {c : Code} {G : zG} {b L : Nat} {xs : Nat → Int32} (C : cx_C p l s m #[Value.ref b] meth c G x code 8 ret "BigDeskLaw" lw_tbl []) (S : va_X b L xs s s.heap ∧ b < s.heap.size ∧ G.2.2 = s.heap.size) {h0 : ah_H} {cells slots n9 : Nat} (hcl : cells + 0 + 10 * n9 ≤ 601024) (hsl : slots + 0 + 60 * n9 ≤ 7293033) {rc_23 : Nat → Nat → Nat → Int32 → ah_H → Prop} (hc_rc_23 : ∀ (cells slots : Nat), cells + 10 * n9 ≤ 601024 → slots + 60 * n9 ≤ 7293033 → ∀ (z0 : Nat) (z1 : Nat) (z2 : Nat) (z3 : Int32) (hz : ah_H) (H : Heap) (locs : List Loc) (ls : Array Slot), rc_23 z0 z1 z2 z3 hz → ah_m h0 hz → ah_W G s.heap hz H locs → lv_has ls 8 [(0, .ref b), (1, .ref z0), (2, .ref z1), (3, .ref z2), (4, .int z3)] → W p l e room_1 s m #[Value.ref b] below meth c H locs cells slots (lw_Z below #[Value.ref b] s) (F0 m 23 ls [])) (x378 : Nat) (x379 : Nat) (x380 : Nat) (x381 : Int32) (h382 : ah_H) (H : Heap) (locs : List Loc) (ls : Array Slot) (w : bk_LW_law_1055 rc_23 L xs x378 x379 x380 x381 h382) (hm : ah_m h0 h382) (hW : ah_W G s.heap h382 H locs) (hl : lv_has ls 8 [(0, .ref b), (1, .ref x378), (2, .ref x379), (3, .ref x380), (4, .int x381)]) : W p l e room_1 s m #[Value.ref b] below meth c H locs cells slots (lw_Z below #[Value.ref b] s) (F0 m 1055 ls []) := by
  unfold bk_LW_law_1055 at w
  obtain ⟨hx, hb, hr, hml, hown, hts, hT, hlk, hK, hX, htb, hin, hst⟩ := id C
  have hw : ∀ {w9 : Cond}, w9 ∈ zx_T → w9.before _ s = true := fun h9 => hts _ (hT _ h9)
  refine lv_goto (tgt := 1523) hx hb d_LW_law_1055 (by decide) ?_
  exact tb_LW_law_1523 C S (by omega) (by omega) hc_rc_23 x378 x379 x380 x381 h382 _ _ _ w hm hW (lv_sub hl [0, 1, 2, 3, 4] rfl)
set_option maxHeartbeats 4000000 in
set_option maxRecDepth 100000 in
theorem tb_LW_law_1003 {p : Program} {l : Launch} {e : Env} {s : State} {m : MethodId} {below : List Frame} {meth : Method} {c : Code} {G : zG} {b L : Nat} {xs : Nat → Int32} (C : cx_C p l s m #[Value.ref b] meth c G x code 8 ret "BigDeskLaw" lw_tbl []) (S : va_X b L xs s s.heap ∧ b < s.heap.size ∧ G.2.2 = s.heap.size) {h0 : ah_H} {cells slots n9 : Nat} (hcl : cells + 2 + 10 * n9 ≤ 601024) (hsl : slots + 12 + 60 * n9 ≤ 7293033) {rc_23 : Nat → Nat → Nat → Int32 → ah_H → Prop} (hc_rc_23 : ∀ (cells slots : Nat), cells + 10 * n9 ≤ 601024 → slots + 60 * n9 ≤ 7293033 → ∀ (z0 : Nat) (z1 : Nat) (z2 : Nat) (z3 : Int32) (hz : ah_H) (H : Heap) (locs : List Loc) (ls : Array Slot), rc_23 z0 z1 z2 z3 hz → ah_m h0 hz → ah_W G s.heap hz H locs → lv_has ls 8 [(0, .ref b), (1, .ref z0), (2, .ref z1), (3, .ref z2), (4, .int z3)] → W p l e room_1 s m #[Value.ref b] below meth c H locs cells slots (lw_Z below #[Value.ref b] s) (F0 m 23 ls [])) (x357 : Nat) (x358 : Nat) (x359 : Nat) (x360 : Int32) (h361 : ah_H) (H : Heap) (locs : List Loc) (ls : Array Slot) (w : bk_LW_law_1003 rc_23 L xs x357 x358 x359 x360 h361) (hm : ah_m h0 h361) (hW : ah_W G s.heap h361 H locs) (hl : lv_has ls 8 [(0, .ref b), (1, .ref x357), (2, .ref x358), (3, .ref x359), (4, .int x360)]) : W p l e room_1 s m #[Value.ref b] below meth c H locs cells slots (lw_Z below #[Value.ref b] s) (F0 m 1003 ls []) := by
  unfold bk_LW_law_1003 at w
  obtain ⟨hx, hb, hr, hml, hown, hts, hT, hlk, hK, hX, htb, hin, hst⟩ := id C
  have hw : ∀ {w9 : Cond}, w9 ∈ zx_T → w9.before _ s = true := fun h9 => hts _ (hT _ h9)
  refine lv_aload_n hx hb d_LW_law_1003 rfl (lv_at hl 1 rfl) ?_
  refine lv_aload_n hx hb d_LW_law_1004 rfl (lv_at hl 0 rfl) ?_
  refine lv_iload hx hb d_LW_law_1005 (lv_at hl 4 rfl) ?_
  refine lv_iconst (v := 1) hx hb d_LW_law_1007 (by decide) ?_
  refine lv_iadd hx hb d_LW_law_1008 ?_
  obtain ⟨i362, w⟩ := w
  refine va_sld hx hb S.1 S.2.1 (by rw [S.2.2]; exact Nat.not_le.mpr S.2.1) hW.2.2 i362 d_LW_law_1009 ?_
  refine lv_aload_n hx hb d_LW_law_1010 rfl (lv_at hl 3 rfl) ?_
  refine hb_calli (vx_runSW (As := [.ref x357, .int (xs (x360 + (1 : Int32)).toNatClampNeg), .ref x359]) (rest := []) ⟨hx, hb, hml, hown, hts⟩ (m_LW_value G x357 (xs (x360 + (1 : Int32)).toNatClampNeg) x359 h361 hst w) (vx_cwSW 3 hts (zx_gS hT wd_512 wd_513 wd_0 wd_514) rfl rfl rfl (by decide +kernel) ⟨Nat.le_of_ble_eq_true rfl, Nat.le_of_ble_eq_true rfl⟩) (hb_preS hK hX hW) rfl rfl hl.1 rfl (lv_room (Nat.le_of_ble_eq_true rfl)) d_LW_law_1011 ⟨(by show _ ≤ 601024; omega), (by show _ ≤ 7293033; omega)⟩) hW (fun r364 h363 H locs hk hW => ?_)
  obtain ⟨w, mm365⟩ := hk
  have w := w mm365
  have hm := hm.tr mm365
  refine lv_istore (lv' := [(5, .int r364), (0, .ref b), (1, .ref x357), (2, .ref x358), (3, .ref x359), (4, .int x360)]) hx hb d_LW_law_1014 hl (by decide) rfl (fun ls hl => ?_)
  refine lv_aload_n hx hb d_LW_law_1016 rfl (lv_at hl 3 rfl) ?_
  refine lv_aload_n hx hb d_LW_law_1017 rfl (lv_at hl 1 rfl) ?_
  refine lv_iload hx hb d_LW_law_1018 (lv_at hl 5 rfl) ?_
  refine lv_iconst (v := 1) hx hb d_LW_law_1020 (by decide) ?_
  refine lv_iadd hx hb d_LW_law_1021 ?_
  obtain ⟨i366, w⟩ := w
  refine va_sld hx hb S.1 S.2.1 (by rw [S.2.2]; exact Nat.not_le.mpr S.2.1) hW.2.2 i366 d_LW_law_1022 ?_
  obtain ⟨t367, w⟩ := w
  refine hb_calll (va_runV (As := [.int (xs (x360 + (1 : Int32)).toNatClampNeg)]) (rest := []) ⟨hx, hb, hml, hown, hts⟩ (m_MO_value G x358 (xs (x360 + (1 : Int32)).toNatClampNeg) h363 hst w) (cwV 1 hts (zx_gV hT wd_787 wd_788 wd_789 wd_5 wd_790) rfl rfl rfl (by decide +kernel) ⟨Nat.le_of_ble_eq_true rfl, Nat.le_of_ble_eq_true rfl⟩) (hb_preV hK hX hW t367 (by decide) rfl) rfl rfl hl.1 rfl (lv_room (Nat.le_of_ble_eq_true rfl)) d_LW_law_1023 ⟨(by show _ ≤ 601024; omega), (by show _ ≤ 7293033; omega)⟩) hW (fun r369 h368 H locs hk hW => ?_)
  obtain ⟨w, mm370⟩ := hk
  have w := w mm370
  have hm := hm.tr mm370
  have t371 := mm370.tg t367 (by decide)
  refine lv_lstore (lv' := [(6, .long r369), (5, .int r364), (0, .ref b), (1, .ref x357), (2, .ref x358), (3, .ref x359), (4, .int x360)]) hx hb d_LW_law_1026 hl (by decide) rfl (fun ls hl => ?_)
  refine lv_aload_n hx hb d_LW_law_1028 rfl (lv_at hl 4 rfl) ?_
  refine hb_calli (va_runV (As := []) (rest := []) ⟨hx, hb, hml, hown, hts⟩ (m_MO_thrown G x358 h368 hst w) (cwV 0 hts (zx_gV hT wd_672 wd_673 wd_674 wd_5 wd_675) rfl rfl rfl (by decide +kernel) ⟨Nat.le_of_ble_eq_true rfl, Nat.le_of_ble_eq_true rfl⟩) (hb_preV hK hX hW t371 (by decide) rfl) rfl rfl hl.1 rfl (lv_room (Nat.le_of_ble_eq_true rfl)) d_LW_law_1029 ⟨(by show _ ≤ 601024; omega), (by show _ ≤ 7293033; omega)⟩) hW (fun r373 h372 H locs hk hW => ?_)
  obtain ⟨w, mm374⟩ := hk
  have w := w mm374
  have hm := hm.tr mm374
  have t375 := mm374.tg t371 (by decide)
  refine lv_iload hx hb d_LW_law_1032 (lv_at hl 1 rfl) ?_
  refine lv_icmp_eq (tgt := 1039) hx hb d_LW_law_1034 (by decide) (fun c376 => ?_) (fun c376 => ?_)
  · have w := w.1 c376
    refine lv_iload hx hb d_LW_law_1039 (lv_at hl 1 rfl) ?_
    refine lv_if_ne (tgt := 1055) hx hb d_LW_law_1041 (by decide) (fun c377 => ?_) (fun c377 => ?_)
    · have w := w.1 c377
      exact tb_LW_law_1055 C S (by omega) (by omega) hc_rc_23 x357 x358 x359 x360 h372 _ _ _ w hm hW (lv_sub hl [2, 3, 4, 5, 6] rfl)
    · have w := w.2 c377
      refine lv_aload_n hx hb d_LW_law_1044 rfl (lv_at hl 5 rfl) ?_
      refine lv_iconst (v := 0) hx hb d_LW_law_1045 (by decide) ?_
      obtain ⟨t383, w⟩ := w
      obtain ⟨i384, w⟩ := w
      refine hb_lald hx hb hK hW t383 (by decide) (by decide) 2 rfl i384 d_LW_law_1046 ?_
      refine lv_lload hx hb d_LW_law_1047 (lv_at hl 0 rfl) ?_
      refine hb_lcmp_eq (tgt := 1055) hx hb d_LW_law_1049 d_LW_law_1050 (by decide) (fun c385 => ?_) (fun c385 => ?_)
      · have w := w.1 c385
        exact tb_LW_law_1055 C S (by omega) (by omega) hc_rc_23 x357 x358 x359 x360 h372 _ _ _ w hm hW (lv_sub hl [2, 3, 4, 5, 6] rfl)
      · have w := w.2 c385
        refine lv_iconst (v := 0) hx hb d_LW_law_1053 (by decide) ?_
        exact w.elim
  · have w := w.2 c376
    refine lv_iconst (v := 0) hx hb d_LW_law_1037 (by decide) ?_
    exact w.elim
set_option maxHeartbeats 4000000 in
set_option maxRecDepth 100000 in
theorem tb_LW_law_1122 {p : Program} {l : Launch} {e : Env} {s : State} {m : MethodId} {below : List Frame} {meth : Method} {c : Code} {G : zG} {b L : Nat} {xs : Nat → Int32} (C : cx_C p l s m #[Value.ref b] meth c G x code 8 ret "BigDeskLaw" lw_tbl []) (S : va_X b L xs s s.heap ∧ b < s.heap.size ∧ G.2.2 = s.heap.size) {h0 : ah_H} {cells slots n9 : Nat} (hcl : cells + 0 + 10 * n9 ≤ 601024) (hsl : slots + 0 + 60 * n9 ≤ 7293033) {rc_23 : Nat → Nat → Nat → Int32 → ah_H → Prop} (hc_rc_23 : ∀ (cells slots : Nat), cells + 10 * n9 ≤ 601024 → slots + 60 * n9 ≤ 7293033 → ∀ (z0 : Nat) (z1 : Nat) (z2 : Nat) (z3 : Int32) (hz : ah_H) (H : Heap) (locs : List Loc) (ls : Array Slot), rc_23 z0 z1 z2 z3 hz → ah_m h0 hz → ah_W G s.heap hz H locs → lv_has ls 8 [(0, .ref b), (1, .ref z0), (2, .ref z1), (3, .ref z2), (4, .int z3)] → W p l e room_1 s m #[Value.ref b] below meth c H locs cells slots (lw_Z below #[Value.ref b] s) (F0 m 23 ls [])) (x409 : Nat) (x410 : Nat) (x411 : Nat) (x412 : Int32) (h413 : ah_H) (H : Heap) (locs : List Loc) (ls : Array Slot) (w : bk_LW_law_1122 rc_23 L xs x409 x410 x411 x412 h413) (hm : ah_m h0 h413) (hW : ah_W G s.heap h413 H locs) (hl : lv_has ls 8 [(0, .ref b), (1, .ref x409), (2, .ref x410), (3, .ref x411), (4, .int x412)]) : W p l e room_1 s m #[Value.ref b] below meth c H locs cells slots (lw_Z below #[Value.ref b] s) (F0 m 1122 ls []) := by
  unfold bk_LW_law_1122 at w
  obtain ⟨hx, hb, hr, hml, hown, hts, hT, hlk, hK, hX, htb, hin, hst⟩ := id C
  have hw : ∀ {w9 : Cond}, w9 ∈ zx_T → w9.before _ s = true := fun h9 => hts _ (hT _ h9)
  refine lv_goto (tgt := 1523) hx hb d_LW_law_1122 (by decide) ?_
  exact tb_LW_law_1523 C S (by omega) (by omega) hc_rc_23 x409 x410 x411 x412 h413 _ _ _ w hm hW (lv_sub hl [0, 1, 2, 3, 4] rfl)
set_option maxHeartbeats 4000000 in
set_option maxRecDepth 100000 in
theorem tb_LW_law_1058 {p : Program} {l : Launch} {e : Env} {s : State} {m : MethodId} {below : List Frame} {meth : Method} {c : Code} {G : zG} {b L : Nat} {xs : Nat → Int32} (C : cx_C p l s m #[Value.ref b] meth c G x code 8 ret "BigDeskLaw" lw_tbl []) (S : va_X b L xs s s.heap ∧ b < s.heap.size ∧ G.2.2 = s.heap.size) {h0 : ah_H} {cells slots n9 : Nat} (hcl : cells + 2 + 10 * n9 ≤ 601024) (hsl : slots + 12 + 60 * n9 ≤ 7293033) {rc_23 : Nat → Nat → Nat → Int32 → ah_H → Prop} (hc_rc_23 : ∀ (cells slots : Nat), cells + 10 * n9 ≤ 601024 → slots + 60 * n9 ≤ 7293033 → ∀ (z0 : Nat) (z1 : Nat) (z2 : Nat) (z3 : Int32) (hz : ah_H) (H : Heap) (locs : List Loc) (ls : Array Slot), rc_23 z0 z1 z2 z3 hz → ah_m h0 hz → ah_W G s.heap hz H locs → lv_has ls 8 [(0, .ref b), (1, .ref z0), (2, .ref z1), (3, .ref z2), (4, .int z3)] → W p l e room_1 s m #[Value.ref b] below meth c H locs cells slots (lw_Z below #[Value.ref b] s) (F0 m 23 ls [])) (x386 : Nat) (x387 : Nat) (x388 : Nat) (x389 : Int32) (h390 : ah_H) (H : Heap) (locs : List Loc) (ls : Array Slot) (w : bk_LW_law_1058 rc_23 L xs x386 x387 x388 x389 h390) (hm : ah_m h0 h390) (hW : ah_W G s.heap h390 H locs) (hl : lv_has ls 8 [(0, .ref b), (1, .ref x386), (2, .ref x387), (3, .ref x388), (4, .int x389)]) : W p l e room_1 s m #[Value.ref b] below meth c H locs cells slots (lw_Z below #[Value.ref b] s) (F0 m 1058 ls []) := by
  unfold bk_LW_law_1058 at w
  obtain ⟨hx, hb, hr, hml, hown, hts, hT, hlk, hK, hX, htb, hin, hst⟩ := id C
  have hw : ∀ {w9 : Cond}, w9 ∈ zx_T → w9.before _ s = true := fun h9 => hts _ (hT _ h9)
  refine lv_aload_n hx hb d_LW_law_1058 rfl (lv_at hl 1 rfl) ?_
  refine lv_aload_n hx hb d_LW_law_1059 rfl (lv_at hl 0 rfl) ?_
  refine lv_iload hx hb d_LW_law_1060 (lv_at hl 4 rfl) ?_
  refine lv_iconst (v := 1) hx hb d_LW_law_1062 (by decide) ?_
  refine lv_iadd hx hb d_LW_law_1063 ?_
  obtain ⟨i391, w⟩ := w
  refine va_sld hx hb S.1 S.2.1 (by rw [S.2.2]; exact Nat.not_le.mpr S.2.1) hW.2.2 i391 d_LW_law_1064 ?_
  refine lv_aload_n hx hb d_LW_law_1065 rfl (lv_at hl 0 rfl) ?_
  refine lv_iload hx hb d_LW_law_1066 (lv_at hl 4 rfl) ?_
  refine lv_iconst (v := 2) hx hb d_LW_law_1068 (by decide) ?_
  refine lv_iadd hx hb d_LW_law_1069 ?_
  obtain ⟨i392, w⟩ := w
  refine va_sld hx hb S.1 S.2.1 (by rw [S.2.2]; exact Nat.not_le.mpr S.2.1) hW.2.2 i392 d_LW_law_1070 ?_
  refine lv_aload_n hx hb d_LW_law_1071 rfl (lv_at hl 3 rfl) ?_
  refine hb_calli (vx_runSW (As := [.ref x386, .int (xs (x389 + (1 : Int32)).toNatClampNeg), .int (xs (x389 + (2 : Int32)).toNatClampNeg), .ref x388]) (rest := []) ⟨hx, hb, hml, hown, hts⟩ (m_LW_limb G x386 (xs (x389 + (1 : Int32)).toNatClampNeg) (xs (x389 + (2 : Int32)).toNatClampNeg) x388 h390 hst w) (vx_cwSW 4 hts (zx_gS hT wd_525 wd_526 wd_0 wd_527) rfl rfl rfl (by decide +kernel) ⟨Nat.le_of_ble_eq_true rfl, Nat.le_of_ble_eq_true rfl⟩) (hb_preS hK hX hW) rfl rfl hl.1 rfl (lv_room (Nat.le_of_ble_eq_true rfl)) d_LW_law_1072 ⟨(by show _ ≤ 601024; omega), (by show _ ≤ 7293033; omega)⟩) hW (fun r394 h393 H locs hk hW => ?_)
  obtain ⟨w, mm395⟩ := hk
  have w := w mm395
  have hm := hm.tr mm395
  refine lv_istore (lv' := [(5, .int r394), (0, .ref b), (1, .ref x386), (2, .ref x387), (3, .ref x388), (4, .int x389)]) hx hb d_LW_law_1075 hl (by decide) rfl (fun ls hl => ?_)
  refine lv_aload_n hx hb d_LW_law_1077 rfl (lv_at hl 3 rfl) ?_
  refine lv_aload_n hx hb d_LW_law_1078 rfl (lv_at hl 1 rfl) ?_
  refine lv_iload hx hb d_LW_law_1079 (lv_at hl 5 rfl) ?_
  refine lv_iconst (v := 1) hx hb d_LW_law_1081 (by decide) ?_
  refine lv_iadd hx hb d_LW_law_1082 ?_
  obtain ⟨i396, w⟩ := w
  refine va_sld hx hb S.1 S.2.1 (by rw [S.2.2]; exact Nat.not_le.mpr S.2.1) hW.2.2 i396 d_LW_law_1083 ?_
  refine lv_aload_n hx hb d_LW_law_1084 rfl (lv_at hl 1 rfl) ?_
  refine lv_iload hx hb d_LW_law_1085 (lv_at hl 5 rfl) ?_
  refine lv_iconst (v := 2) hx hb d_LW_law_1087 (by decide) ?_
  refine lv_iadd hx hb d_LW_law_1088 ?_
  obtain ⟨i397, w⟩ := w
  refine va_sld hx hb S.1 S.2.1 (by rw [S.2.2]; exact Nat.not_le.mpr S.2.1) hW.2.2 i397 d_LW_law_1089 ?_
  obtain ⟨t398, w⟩ := w
  refine hb_calll (va_runV (As := [.int (xs (x389 + (1 : Int32)).toNatClampNeg), .int (xs (x389 + (2 : Int32)).toNatClampNeg)]) (rest := []) ⟨hx, hb, hml, hown, hts⟩ (m_MO_limb G x387 (xs (x389 + (1 : Int32)).toNatClampNeg) (xs (x389 + (2 : Int32)).toNatClampNeg) h393 hst w) (cwV 2 hts (zx_gV hT wd_800 wd_801 wd_802 wd_5 wd_803) rfl rfl rfl (by decide +kernel) ⟨Nat.le_of_ble_eq_true rfl, Nat.le_of_ble_eq_true rfl⟩) (hb_preV hK hX hW t398 (by decide) rfl) rfl rfl hl.1 rfl (lv_room (Nat.le_of_ble_eq_true rfl)) d_LW_law_1090 ⟨(by show _ ≤ 601024; omega), (by show _ ≤ 7293033; omega)⟩) hW (fun r400 h399 H locs hk hW => ?_)
  obtain ⟨w, mm401⟩ := hk
  have w := w mm401
  have hm := hm.tr mm401
  have t402 := mm401.tg t398 (by decide)
  refine lv_lstore (lv' := [(6, .long r400), (5, .int r394), (0, .ref b), (1, .ref x386), (2, .ref x387), (3, .ref x388), (4, .int x389)]) hx hb d_LW_law_1093 hl (by decide) rfl (fun ls hl => ?_)
  refine lv_aload_n hx hb d_LW_law_1095 rfl (lv_at hl 4 rfl) ?_
  refine hb_calli (va_runV (As := []) (rest := []) ⟨hx, hb, hml, hown, hts⟩ (m_MO_thrown G x387 h399 hst w) (cwV 0 hts (zx_gV hT wd_672 wd_673 wd_674 wd_5 wd_675) rfl rfl rfl (by decide +kernel) ⟨Nat.le_of_ble_eq_true rfl, Nat.le_of_ble_eq_true rfl⟩) (hb_preV hK hX hW t402 (by decide) rfl) rfl rfl hl.1 rfl (lv_room (Nat.le_of_ble_eq_true rfl)) d_LW_law_1096 ⟨(by show _ ≤ 601024; omega), (by show _ ≤ 7293033; omega)⟩) hW (fun r404 h403 H locs hk hW => ?_)
  obtain ⟨w, mm405⟩ := hk
  have w := w mm405
  have hm := hm.tr mm405
  have t406 := mm405.tg t402 (by decide)
  refine lv_iload hx hb d_LW_law_1099 (lv_at hl 1 rfl) ?_
  refine lv_icmp_eq (tgt := 1106) hx hb d_LW_law_1101 (by decide) (fun c407 => ?_) (fun c407 => ?_)
  · have w := w.1 c407
    refine lv_iload hx hb d_LW_law_1106 (lv_at hl 1 rfl) ?_
    refine lv_if_ne (tgt := 1122) hx hb d_LW_law_1108 (by decide) (fun c408 => ?_) (fun c408 => ?_)
    · have w := w.1 c408
      exact tb_LW_law_1122 C S (by omega) (by omega) hc_rc_23 x386 x387 x388 x389 h403 _ _ _ w hm hW (lv_sub hl [2, 3, 4, 5, 6] rfl)
    · have w := w.2 c408
      refine lv_aload_n hx hb d_LW_law_1111 rfl (lv_at hl 5 rfl) ?_
      refine lv_iconst (v := 0) hx hb d_LW_law_1112 (by decide) ?_
      obtain ⟨t414, w⟩ := w
      obtain ⟨i415, w⟩ := w
      refine hb_lald hx hb hK hW t414 (by decide) (by decide) 2 rfl i415 d_LW_law_1113 ?_
      refine lv_lload hx hb d_LW_law_1114 (lv_at hl 0 rfl) ?_
      refine hb_lcmp_eq (tgt := 1122) hx hb d_LW_law_1116 d_LW_law_1117 (by decide) (fun c416 => ?_) (fun c416 => ?_)
      · have w := w.1 c416
        exact tb_LW_law_1122 C S (by omega) (by omega) hc_rc_23 x386 x387 x388 x389 h403 _ _ _ w hm hW (lv_sub hl [2, 3, 4, 5, 6] rfl)
      · have w := w.2 c416
        refine lv_iconst (v := 0) hx hb d_LW_law_1120 (by decide) ?_
        exact w.elim
  · have w := w.2 c407
    refine lv_iconst (v := 0) hx hb d_LW_law_1104 (by decide) ?_
    exact w.elim
set_option maxHeartbeats 4000000 in
set_option maxRecDepth 100000 in
theorem tb_LW_law_1190 {p : Program} {l : Launch} {e : Env} {s : State} {m : MethodId} {below : List Frame} {meth : Method} {c : Code} {G : zG} {b L : Nat} {xs : Nat → Int32} (C : cx_C p l s m #[Value.ref b] meth c G x code 8 ret "BigDeskLaw" lw_tbl []) (S : va_X b L xs s s.heap ∧ b < s.heap.size ∧ G.2.2 = s.heap.size) {h0 : ah_H} {cells slots n9 : Nat} (hcl : cells + 0 + 10 * n9 ≤ 601024) (hsl : slots + 0 + 60 * n9 ≤ 7293033) {rc_23 : Nat → Nat → Nat → Int32 → ah_H → Prop} (hc_rc_23 : ∀ (cells slots : Nat), cells + 10 * n9 ≤ 601024 → slots + 60 * n9 ≤ 7293033 → ∀ (z0 : Nat) (z1 : Nat) (z2 : Nat) (z3 : Int32) (hz : ah_H) (H : Heap) (locs : List Loc) (ls : Array Slot), rc_23 z0 z1 z2 z3 hz → ah_m h0 hz → ah_W G s.heap hz H locs → lv_has ls 8 [(0, .ref b), (1, .ref z0), (2, .ref z1), (3, .ref z2), (4, .int z3)] → W p l e room_1 s m #[Value.ref b] below meth c H locs cells slots (lw_Z below #[Value.ref b] s) (F0 m 23 ls [])) (x440 : Nat) (x441 : Nat) (x442 : Nat) (x443 : Int32) (h444 : ah_H) (H : Heap) (locs : List Loc) (ls : Array Slot) (w : bk_LW_law_1190 rc_23 L xs x440 x441 x442 x443 h444) (hm : ah_m h0 h444) (hW : ah_W G s.heap h444 H locs) (hl : lv_has ls 8 [(0, .ref b), (1, .ref x440), (2, .ref x441), (3, .ref x442), (4, .int x443)]) : W p l e room_1 s m #[Value.ref b] below meth c H locs cells slots (lw_Z below #[Value.ref b] s) (F0 m 1190 ls []) := by
  unfold bk_LW_law_1190 at w
  obtain ⟨hx, hb, hr, hml, hown, hts, hT, hlk, hK, hX, htb, hin, hst⟩ := id C
  have hw : ∀ {w9 : Cond}, w9 ∈ zx_T → w9.before _ s = true := fun h9 => hts _ (hT _ h9)
  refine lv_goto (tgt := 1523) hx hb d_LW_law_1190 (by decide) ?_
  exact tb_LW_law_1523 C S (by omega) (by omega) hc_rc_23 x440 x441 x442 x443 h444 _ _ _ w hm hW (lv_sub hl [0, 1, 2, 3, 4] rfl)
set_option maxHeartbeats 4000000 in
set_option maxRecDepth 100000 in
theorem tb_LW_law_1125 {p : Program} {l : Launch} {e : Env} {s : State} {m : MethodId} {below : List Frame} {meth : Method} {c : Code} {G : zG} {b L : Nat} {xs : Nat → Int32} (C : cx_C p l s m #[Value.ref b] meth c G x code 8 ret "BigDeskLaw" lw_tbl []) (S : va_X b L xs s s.heap ∧ b < s.heap.size ∧ G.2.2 = s.heap.size) {h0 : ah_H} {cells slots n9 : Nat} (hcl : cells + 2 + 10 * n9 ≤ 601024) (hsl : slots + 12 + 60 * n9 ≤ 7293033) {rc_23 : Nat → Nat → Nat → Int32 → ah_H → Prop} (hc_rc_23 : ∀ (cells slots : Nat), cells + 10 * n9 ≤ 601024 → slots + 60 * n9 ≤ 7293033 → ∀ (z0 : Nat) (z1 : Nat) (z2 : Nat) (z3 : Int32) (hz : ah_H) (H : Heap) (locs : List Loc) (ls : Array Slot), rc_23 z0 z1 z2 z3 hz → ah_m h0 hz → ah_W G s.heap hz H locs → lv_has ls 8 [(0, .ref b), (1, .ref z0), (2, .ref z1), (3, .ref z2), (4, .int z3)] → W p l e room_1 s m #[Value.ref b] below meth c H locs cells slots (lw_Z below #[Value.ref b] s) (F0 m 23 ls [])) (x417 : Nat) (x418 : Nat) (x419 : Nat) (x420 : Int32) (h421 : ah_H) (H : Heap) (locs : List Loc) (ls : Array Slot) (w : bk_LW_law_1125 rc_23 L xs x417 x418 x419 x420 h421) (hm : ah_m h0 h421) (hW : ah_W G s.heap h421 H locs) (hl : lv_has ls 8 [(0, .ref b), (1, .ref x417), (2, .ref x418), (3, .ref x419), (4, .int x420)]) : W p l e room_1 s m #[Value.ref b] below meth c H locs cells slots (lw_Z below #[Value.ref b] s) (F0 m 1125 ls []) := by
  unfold bk_LW_law_1125 at w
  obtain ⟨hx, hb, hr, hml, hown, hts, hT, hlk, hK, hX, htb, hin, hst⟩ := id C
  have hw : ∀ {w9 : Cond}, w9 ∈ zx_T → w9.before _ s = true := fun h9 => hts _ (hT _ h9)
  refine lv_aload_n hx hb d_LW_law_1125 rfl (lv_at hl 1 rfl) ?_
  refine lv_aload_n hx hb d_LW_law_1126 rfl (lv_at hl 0 rfl) ?_
  refine lv_iload hx hb d_LW_law_1127 (lv_at hl 4 rfl) ?_
  refine lv_iconst (v := 1) hx hb d_LW_law_1129 (by decide) ?_
  refine lv_iadd hx hb d_LW_law_1130 ?_
  obtain ⟨i422, w⟩ := w
  refine va_sld hx hb S.1 S.2.1 (by rw [S.2.2]; exact Nat.not_le.mpr S.2.1) hW.2.2 i422 d_LW_law_1131 ?_
  refine lv_aload_n hx hb d_LW_law_1132 rfl (lv_at hl 0 rfl) ?_
  refine lv_iload hx hb d_LW_law_1133 (lv_at hl 4 rfl) ?_
  refine lv_iconst (v := 2) hx hb d_LW_law_1135 (by decide) ?_
  refine lv_iadd hx hb d_LW_law_1136 ?_
  obtain ⟨i423, w⟩ := w
  refine va_sld hx hb S.1 S.2.1 (by rw [S.2.2]; exact Nat.not_le.mpr S.2.1) hW.2.2 i423 d_LW_law_1137 ?_
  refine lv_aload_n hx hb d_LW_law_1138 rfl (lv_at hl 3 rfl) ?_
  refine hb_calli (vx_runSW (As := [.ref x417, .int (xs (x420 + (1 : Int32)).toNatClampNeg), .int (xs (x420 + (2 : Int32)).toNatClampNeg), .ref x419]) (rest := []) ⟨hx, hb, hml, hown, hts⟩ (m_LW_look G x417 (xs (x420 + (1 : Int32)).toNatClampNeg) (xs (x420 + (2 : Int32)).toNatClampNeg) x419 h421 hst w) (vx_cwSW 4 hts (zx_gS hT wd_534 wd_535 wd_0 wd_536) rfl rfl rfl (by decide +kernel) ⟨Nat.le_of_ble_eq_true rfl, Nat.le_of_ble_eq_true rfl⟩) (hb_preS hK hX hW) rfl rfl hl.1 rfl (lv_room (Nat.le_of_ble_eq_true rfl)) d_LW_law_1139 ⟨(by show _ ≤ 601024; omega), (by show _ ≤ 7293033; omega)⟩) hW (fun r425 h424 H locs hk hW => ?_)
  obtain ⟨w, mm426⟩ := hk
  have w := w mm426
  have hm := hm.tr mm426
  refine lv_istore (lv' := [(5, .int r425), (0, .ref b), (1, .ref x417), (2, .ref x418), (3, .ref x419), (4, .int x420)]) hx hb d_LW_law_1142 hl (by decide) rfl (fun ls hl => ?_)
  refine lv_aload_n hx hb d_LW_law_1144 rfl (lv_at hl 3 rfl) ?_
  refine lv_aload_n hx hb d_LW_law_1145 rfl (lv_at hl 1 rfl) ?_
  refine lv_iload hx hb d_LW_law_1146 (lv_at hl 5 rfl) ?_
  refine lv_iconst (v := 1) hx hb d_LW_law_1148 (by decide) ?_
  refine lv_iadd hx hb d_LW_law_1149 ?_
  obtain ⟨i427, w⟩ := w
  refine va_sld hx hb S.1 S.2.1 (by rw [S.2.2]; exact Nat.not_le.mpr S.2.1) hW.2.2 i427 d_LW_law_1150 ?_
  refine lv_aload_n hx hb d_LW_law_1151 rfl (lv_at hl 1 rfl) ?_
  refine lv_iload hx hb d_LW_law_1152 (lv_at hl 5 rfl) ?_
  refine lv_iconst (v := 2) hx hb d_LW_law_1154 (by decide) ?_
  refine lv_iadd hx hb d_LW_law_1155 ?_
  obtain ⟨i428, w⟩ := w
  refine va_sld hx hb S.1 S.2.1 (by rw [S.2.2]; exact Nat.not_le.mpr S.2.1) hW.2.2 i428 d_LW_law_1156 ?_
  obtain ⟨t429, w⟩ := w
  refine hb_calli (va_runV (As := [.int (xs (x420 + (1 : Int32)).toNatClampNeg), .int (xs (x420 + (2 : Int32)).toNatClampNeg)]) (rest := []) ⟨hx, hb, hml, hown, hts⟩ (m_MO_look G x418 (xs (x420 + (1 : Int32)).toNatClampNeg) (xs (x420 + (2 : Int32)).toNatClampNeg) h424 hst w) (cwV 2 hts (zx_gV hT wd_807 wd_808 wd_809 wd_5 wd_810) rfl rfl rfl (by decide +kernel) ⟨Nat.le_of_ble_eq_true rfl, Nat.le_of_ble_eq_true rfl⟩) (hb_preV hK hX hW t429 (by decide) rfl) rfl rfl hl.1 rfl (lv_room (Nat.le_of_ble_eq_true rfl)) d_LW_law_1157 ⟨(by show _ ≤ 601024; omega), (by show _ ≤ 7293033; omega)⟩) hW (fun r431 h430 H locs hk hW => ?_)
  obtain ⟨w, mm432⟩ := hk
  have w := w mm432
  have hm := hm.tr mm432
  have t433 := mm432.tg t429 (by decide)
  refine lv_istore (lv' := [(6, .int r431), (5, .int r425), (0, .ref b), (1, .ref x417), (2, .ref x418), (3, .ref x419), (4, .int x420)]) hx hb d_LW_law_1160 hl (by decide) rfl (fun ls hl => ?_)
  refine lv_aload_n hx hb d_LW_law_1162 rfl (lv_at hl 4 rfl) ?_
  refine hb_calli (va_runV (As := []) (rest := []) ⟨hx, hb, hml, hown, hts⟩ (m_MO_thrown G x418 h430 hst w) (cwV 0 hts (zx_gV hT wd_672 wd_673 wd_674 wd_5 wd_675) rfl rfl rfl (by decide +kernel) ⟨Nat.le_of_ble_eq_true rfl, Nat.le_of_ble_eq_true rfl⟩) (hb_preV hK hX hW t433 (by decide) rfl) rfl rfl hl.1 rfl (lv_room (Nat.le_of_ble_eq_true rfl)) d_LW_law_1163 ⟨(by show _ ≤ 601024; omega), (by show _ ≤ 7293033; omega)⟩) hW (fun r435 h434 H locs hk hW => ?_)
  obtain ⟨w, mm436⟩ := hk
  have w := w mm436
  have hm := hm.tr mm436
  have t437 := mm436.tg t433 (by decide)
  refine lv_iload hx hb d_LW_law_1166 (lv_at hl 1 rfl) ?_
  refine lv_icmp_eq (tgt := 1173) hx hb d_LW_law_1168 (by decide) (fun c438 => ?_) (fun c438 => ?_)
  · have w := w.1 c438
    refine lv_iload hx hb d_LW_law_1173 (lv_at hl 1 rfl) ?_
    refine lv_if_ne (tgt := 1190) hx hb d_LW_law_1175 (by decide) (fun c439 => ?_) (fun c439 => ?_)
    · have w := w.1 c439
      exact tb_LW_law_1190 C S (by omega) (by omega) hc_rc_23 x417 x418 x419 x420 h434 _ _ _ w hm hW (lv_sub hl [2, 3, 4, 5, 6] rfl)
    · have w := w.2 c439
      refine lv_aload_n hx hb d_LW_law_1178 rfl (lv_at hl 5 rfl) ?_
      refine lv_iconst (v := 0) hx hb d_LW_law_1179 (by decide) ?_
      obtain ⟨t445, w⟩ := w
      obtain ⟨i446, w⟩ := w
      refine hb_lald hx hb hK hW t445 (by decide) (by decide) 2 rfl i446 d_LW_law_1180 ?_
      refine lv_iload hx hb d_LW_law_1181 (lv_at hl 0 rfl) ?_
      refine lv_i2l hx hb d_LW_law_1183 rfl ?_
      refine hb_lcmp_eq (tgt := 1190) hx hb d_LW_law_1184 d_LW_law_1185 (by decide) (fun c447 => ?_) (fun c447 => ?_)
      · have w := w.1 c447
        exact tb_LW_law_1190 C S (by omega) (by omega) hc_rc_23 x417 x418 x419 x420 h434 _ _ _ w hm hW (lv_sub hl [2, 3, 4, 5, 6] rfl)
      · have w := w.2 c447
        refine lv_iconst (v := 0) hx hb d_LW_law_1188 (by decide) ?_
        exact w.elim
  · have w := w.2 c438
    refine lv_iconst (v := 0) hx hb d_LW_law_1171 (by decide) ?_
    exact w.elim
set_option maxHeartbeats 4000000 in
set_option maxRecDepth 100000 in
theorem tb_LW_law_1290 {p : Program} {l : Launch} {e : Env} {s : State} {m : MethodId} {below : List Frame} {meth : Method} {c : Code} {G : zG} {b L : Nat} {xs : Nat → Int32} (C : cx_C p l s m #[Value.ref b] meth c G x code 8 ret "BigDeskLaw" lw_tbl []) (S : va_X b L xs s s.heap ∧ b < s.heap.size ∧ G.2.2 = s.heap.size) {h0 : ah_H} {cells slots n9 : Nat} (hcl : cells + 0 + 10 * n9 ≤ 601024) (hsl : slots + 0 + 60 * n9 ≤ 7293033) {rc_23 : Nat → Nat → Nat → Int32 → ah_H → Prop} (hc_rc_23 : ∀ (cells slots : Nat), cells + 10 * n9 ≤ 601024 → slots + 60 * n9 ≤ 7293033 → ∀ (z0 : Nat) (z1 : Nat) (z2 : Nat) (z3 : Int32) (hz : ah_H) (H : Heap) (locs : List Loc) (ls : Array Slot), rc_23 z0 z1 z2 z3 hz → ah_m h0 hz → ah_W G s.heap hz H locs → lv_has ls 8 [(0, .ref b), (1, .ref z0), (2, .ref z1), (3, .ref z2), (4, .int z3)] → W p l e room_1 s m #[Value.ref b] below meth c H locs cells slots (lw_Z below #[Value.ref b] s) (F0 m 23 ls [])) (x473 : Nat) (x474 : Nat) (x475 : Nat) (x476 : Int32) (h477 : ah_H) (H : Heap) (locs : List Loc) (ls : Array Slot) (w : bk_LW_law_1290 rc_23 L xs x473 x474 x475 x476 h477) (hm : ah_m h0 h477) (hW : ah_W G s.heap h477 H locs) (hl : lv_has ls 8 [(0, .ref b), (1, .ref x473), (2, .ref x474), (3, .ref x475), (4, .int x476)]) : W p l e room_1 s m #[Value.ref b] below meth c H locs cells slots (lw_Z below #[Value.ref b] s) (F0 m 1290 ls []) := by
  unfold bk_LW_law_1290 at w
  obtain ⟨hx, hb, hr, hml, hown, hts, hT, hlk, hK, hX, htb, hin, hst⟩ := id C
  have hw : ∀ {w9 : Cond}, w9 ∈ zx_T → w9.before _ s = true := fun h9 => hts _ (hT _ h9)
  refine lv_goto (tgt := 1523) hx hb d_LW_law_1290 (by decide) ?_
  exact tb_LW_law_1523 C S (by omega) (by omega) hc_rc_23 x473 x474 x475 x476 h477 _ _ _ w hm hW (lv_sub hl [0, 1, 2, 3, 4] rfl)
set_option maxHeartbeats 4000000 in
set_option maxRecDepth 100000 in
theorem tb_LW_law_1193 {p : Program} {l : Launch} {e : Env} {s : State} {m : MethodId} {below : List Frame} {meth : Method} {c : Code} {G : zG} {b L : Nat} {xs : Nat → Int32} (C : cx_C p l s m #[Value.ref b] meth c G x code 8 ret "BigDeskLaw" lw_tbl []) (S : va_X b L xs s s.heap ∧ b < s.heap.size ∧ G.2.2 = s.heap.size) {h0 : ah_H} {cells slots n9 : Nat} (hcl : cells + 1 + 10 * n9 ≤ 601024) (hsl : slots + 6 + 60 * n9 ≤ 7293033) {rc_23 : Nat → Nat → Nat → Int32 → ah_H → Prop} (hc_rc_23 : ∀ (cells slots : Nat), cells + 10 * n9 ≤ 601024 → slots + 60 * n9 ≤ 7293033 → ∀ (z0 : Nat) (z1 : Nat) (z2 : Nat) (z3 : Int32) (hz : ah_H) (H : Heap) (locs : List Loc) (ls : Array Slot), rc_23 z0 z1 z2 z3 hz → ah_m h0 hz → ah_W G s.heap hz H locs → lv_has ls 8 [(0, .ref b), (1, .ref z0), (2, .ref z1), (3, .ref z2), (4, .int z3)] → W p l e room_1 s m #[Value.ref b] below meth c H locs cells slots (lw_Z below #[Value.ref b] s) (F0 m 23 ls [])) (x448 : Nat) (x449 : Nat) (x450 : Nat) (x451 : Int32) (h452 : ah_H) (H : Heap) (locs : List Loc) (ls : Array Slot) (w : bk_LW_law_1193 rc_23 L xs x448 x449 x450 x451 h452) (hm : ah_m h0 h452) (hW : ah_W G s.heap h452 H locs) (hl : lv_has ls 8 [(0, .ref b), (1, .ref x448), (2, .ref x449), (3, .ref x450), (4, .int x451)]) : W p l e room_1 s m #[Value.ref b] below meth c H locs cells slots (lw_Z below #[Value.ref b] s) (F0 m 1193 ls []) := by
  unfold bk_LW_law_1193 at w
  obtain ⟨hx, hb, hr, hml, hown, hts, hT, hlk, hK, hX, htb, hin, hst⟩ := id C
  have hw : ∀ {w9 : Cond}, w9 ∈ zx_T → w9.before _ s = true := fun h9 => hts _ (hT _ h9)
  refine lv_aload_n hx hb d_LW_law_1193 rfl (lv_at hl 1 rfl) ?_
  refine lv_aload_n hx hb d_LW_law_1194 rfl (lv_at hl 0 rfl) ?_
  refine lv_iload hx hb d_LW_law_1195 (lv_at hl 4 rfl) ?_
  refine lv_iconst (v := 1) hx hb d_LW_law_1197 (by decide) ?_
  refine lv_iadd hx hb d_LW_law_1198 ?_
  obtain ⟨i453, w⟩ := w
  refine va_sld hx hb S.1 S.2.1 (by rw [S.2.2]; exact Nat.not_le.mpr S.2.1) hW.2.2 i453 d_LW_law_1199 ?_
  refine lv_aload_n hx hb d_LW_law_1200 rfl (lv_at hl 0 rfl) ?_
  refine lv_iload hx hb d_LW_law_1201 (lv_at hl 4 rfl) ?_
  refine lv_iconst (v := 2) hx hb d_LW_law_1203 (by decide) ?_
  refine lv_iadd hx hb d_LW_law_1204 ?_
  obtain ⟨i454, w⟩ := w
  refine va_sld hx hb S.1 S.2.1 (by rw [S.2.2]; exact Nat.not_le.mpr S.2.1) hW.2.2 i454 d_LW_law_1205 ?_
  refine lv_i2l hx hb d_LW_law_1206 rfl ?_
  refine lv_bipush (v := 32) hx hb d_LW_law_1207 (by decide) ?_
  refine lv_lshl hx hb d_LW_law_1209 rfl ?_
  refine lv_aload_n hx hb d_LW_law_1210 rfl (lv_at hl 0 rfl) ?_
  refine lv_iload hx hb d_LW_law_1211 (lv_at hl 4 rfl) ?_
  refine lv_iconst (v := 3) hx hb d_LW_law_1213 (by decide) ?_
  refine lv_iadd hx hb d_LW_law_1214 ?_
  obtain ⟨i455, w⟩ := w
  refine va_sld hx hb S.1 S.2.1 (by rw [S.2.2]; exact Nat.not_le.mpr S.2.1) hW.2.2 i455 d_LW_law_1215 ?_
  refine lv_i2l hx hb d_LW_law_1216 rfl ?_
  refine lv_ldc2 (v := 4294967295) hx hb hown (hw wd_845) d_LW_law_1217 ?_
  refine lv_land hx hb d_LW_law_1220 ?_
  refine lv_lor hx hb d_LW_law_1221 ?_
  refine lv_aload_n hx hb d_LW_law_1222 rfl (lv_at hl 3 rfl) ?_
  refine hb_calli (vx_runSW (As := [.ref x448, .int (xs (x451 + (1 : Int32)).toNatClampNeg), .long ((((xs (x451 + (2 : Int32)).toNatClampNeg).toInt64) <<< ((32 : Int32).toInt64 &&& 63)) ||| (((xs (x451 + (3 : Int32)).toNatClampNeg).toInt64) &&& (4294967295 : Int64))), .ref x450]) (rest := []) ⟨hx, hb, hml, hown, hts⟩ (m_LW_feed G x448 (xs (x451 + (1 : Int32)).toNatClampNeg) ((((xs (x451 + (2 : Int32)).toNatClampNeg).toInt64) <<< ((32 : Int32).toInt64 &&& 63)) ||| (((xs (x451 + (3 : Int32)).toNatClampNeg).toInt64) &&& (4294967295 : Int64))) x450 h452 hst w) (vx_cwSW 4 hts (zx_gS hT wd_542 wd_543 wd_0 wd_544) rfl rfl rfl (by decide +kernel) ⟨Nat.le_of_ble_eq_true rfl, Nat.le_of_ble_eq_true rfl⟩) (hb_preS hK hX hW) rfl rfl hl.1 rfl (lv_room (Nat.le_of_ble_eq_true rfl)) d_LW_law_1223 ⟨(by show _ ≤ 601024; omega), (by show _ ≤ 7293033; omega)⟩) hW (fun r457 h456 H locs hk hW => ?_)
  obtain ⟨w, mm458⟩ := hk
  have w := w mm458
  have hm := hm.tr mm458
  refine lv_istore (lv' := [(5, .int r457), (0, .ref b), (1, .ref x448), (2, .ref x449), (3, .ref x450), (4, .int x451)]) hx hb d_LW_law_1226 hl (by decide) rfl (fun ls hl => ?_)
  refine lv_aload_n hx hb d_LW_law_1228 rfl (lv_at hl 3 rfl) ?_
  refine lv_aload_n hx hb d_LW_law_1229 rfl (lv_at hl 1 rfl) ?_
  refine lv_iload hx hb d_LW_law_1230 (lv_at hl 5 rfl) ?_
  refine lv_iconst (v := 1) hx hb d_LW_law_1232 (by decide) ?_
  refine lv_iadd hx hb d_LW_law_1233 ?_
  obtain ⟨i459, w⟩ := w
  refine va_sld hx hb S.1 S.2.1 (by rw [S.2.2]; exact Nat.not_le.mpr S.2.1) hW.2.2 i459 d_LW_law_1234 ?_
  refine lv_aload_n hx hb d_LW_law_1235 rfl (lv_at hl 1 rfl) ?_
  refine lv_iload hx hb d_LW_law_1236 (lv_at hl 5 rfl) ?_
  refine lv_iconst (v := 2) hx hb d_LW_law_1238 (by decide) ?_
  refine lv_iadd hx hb d_LW_law_1239 ?_
  obtain ⟨i460, w⟩ := w
  refine va_sld hx hb S.1 S.2.1 (by rw [S.2.2]; exact Nat.not_le.mpr S.2.1) hW.2.2 i460 d_LW_law_1240 ?_
  refine lv_i2l hx hb d_LW_law_1241 rfl ?_
  refine lv_bipush (v := 32) hx hb d_LW_law_1242 (by decide) ?_
  refine lv_lshl hx hb d_LW_law_1244 rfl ?_
  refine lv_aload_n hx hb d_LW_law_1245 rfl (lv_at hl 1 rfl) ?_
  refine lv_iload hx hb d_LW_law_1246 (lv_at hl 5 rfl) ?_
  refine lv_iconst (v := 3) hx hb d_LW_law_1248 (by decide) ?_
  refine lv_iadd hx hb d_LW_law_1249 ?_
  obtain ⟨i461, w⟩ := w
  refine va_sld hx hb S.1 S.2.1 (by rw [S.2.2]; exact Nat.not_le.mpr S.2.1) hW.2.2 i461 d_LW_law_1250 ?_
  refine lv_i2l hx hb d_LW_law_1251 rfl ?_
  refine lv_ldc2 (v := 4294967295) hx hb hown (hw wd_845) d_LW_law_1252 ?_
  refine lv_land hx hb d_LW_law_1255 ?_
  refine lv_lor hx hb d_LW_law_1256 ?_
  obtain ⟨t462, w⟩ := w
  refine hb_calli (va_runV (As := [.int (xs (x451 + (1 : Int32)).toNatClampNeg), .long ((((xs (x451 + (2 : Int32)).toNatClampNeg).toInt64) <<< ((32 : Int32).toInt64 &&& 63)) ||| (((xs (x451 + (3 : Int32)).toNatClampNeg).toInt64) &&& (4294967295 : Int64)))]) (rest := []) ⟨hx, hb, hml, hown, hts⟩ (m_MO_feed G x449 (xs (x451 + (1 : Int32)).toNatClampNeg) ((((xs (x451 + (2 : Int32)).toNatClampNeg).toInt64) <<< ((32 : Int32).toInt64 &&& 63)) ||| (((xs (x451 + (3 : Int32)).toNatClampNeg).toInt64) &&& (4294967295 : Int64))) h456 hst w) (cwV 2 hts (zx_gV hT wd_816 wd_817 wd_818 wd_5 wd_819) rfl rfl rfl (by decide +kernel) ⟨Nat.le_of_ble_eq_true rfl, Nat.le_of_ble_eq_true rfl⟩) (hb_preV hK hX hW t462 (by decide) rfl) rfl rfl hl.1 rfl (lv_room (Nat.le_of_ble_eq_true rfl)) d_LW_law_1257 ⟨(by show _ ≤ 601024; omega), (by show _ ≤ 7293033; omega)⟩) hW (fun r464 h463 H locs hk hW => ?_)
  obtain ⟨w, mm465⟩ := hk
  have w := w mm465
  have hm := hm.tr mm465
  have t466 := mm465.tg t462 (by decide)
  refine lv_istore (lv' := [(6, .int r464), (5, .int r457), (0, .ref b), (1, .ref x448), (2, .ref x449), (3, .ref x450), (4, .int x451)]) hx hb d_LW_law_1260 hl (by decide) rfl (fun ls hl => ?_)
  refine lv_aload_n hx hb d_LW_law_1262 rfl (lv_at hl 4 rfl) ?_
  refine hb_calli (va_runV (As := []) (rest := []) ⟨hx, hb, hml, hown, hts⟩ (m_MO_thrown G x449 h463 hst w) (cwV 0 hts (zx_gV hT wd_672 wd_673 wd_674 wd_5 wd_675) rfl rfl rfl (by decide +kernel) ⟨Nat.le_of_ble_eq_true rfl, Nat.le_of_ble_eq_true rfl⟩) (hb_preV hK hX hW t466 (by decide) rfl) rfl rfl hl.1 rfl (lv_room (Nat.le_of_ble_eq_true rfl)) d_LW_law_1263 ⟨(by show _ ≤ 601024; omega), (by show _ ≤ 7293033; omega)⟩) hW (fun r468 h467 H locs hk hW => ?_)
  obtain ⟨w, mm469⟩ := hk
  have w := w mm469
  have hm := hm.tr mm469
  have t470 := mm469.tg t466 (by decide)
  refine lv_iload hx hb d_LW_law_1266 (lv_at hl 1 rfl) ?_
  refine lv_icmp_eq (tgt := 1273) hx hb d_LW_law_1268 (by decide) (fun c471 => ?_) (fun c471 => ?_)
  · have w := w.1 c471
    refine lv_iload hx hb d_LW_law_1273 (lv_at hl 1 rfl) ?_
    refine lv_if_ne (tgt := 1290) hx hb d_LW_law_1275 (by decide) (fun c472 => ?_) (fun c472 => ?_)
    · have w := w.1 c472
      exact tb_LW_law_1290 C S (by omega) (by omega) hc_rc_23 x448 x449 x450 x451 h467 _ _ _ w hm hW (lv_sub hl [2, 3, 4, 5, 6] rfl)
    · have w := w.2 c472
      refine lv_aload_n hx hb d_LW_law_1278 rfl (lv_at hl 5 rfl) ?_
      refine lv_iconst (v := 0) hx hb d_LW_law_1279 (by decide) ?_
      obtain ⟨t478, w⟩ := w
      obtain ⟨i479, w⟩ := w
      refine hb_lald hx hb hK hW t478 (by decide) (by decide) 2 rfl i479 d_LW_law_1280 ?_
      refine lv_iload hx hb d_LW_law_1281 (lv_at hl 0 rfl) ?_
      refine lv_i2l hx hb d_LW_law_1283 rfl ?_
      refine hb_lcmp_eq (tgt := 1290) hx hb d_LW_law_1284 d_LW_law_1285 (by decide) (fun c480 => ?_) (fun c480 => ?_)
      · have w := w.1 c480
        exact tb_LW_law_1290 C S (by omega) (by omega) hc_rc_23 x448 x449 x450 x451 h467 _ _ _ w hm hW (lv_sub hl [2, 3, 4, 5, 6] rfl)
      · have w := w.2 c480
        refine lv_iconst (v := 0) hx hb d_LW_law_1288 (by decide) ?_
        exact w.elim
  · have w := w.2 c471
    refine lv_iconst (v := 0) hx hb d_LW_law_1271 (by decide) ?_
    exact w.elim
set_option maxHeartbeats 4000000 in
set_option maxRecDepth 100000 in
theorem tb_LW_law_1353 {p : Program} {l : Launch} {e : Env} {s : State} {m : MethodId} {below : List Frame} {meth : Method} {c : Code} {G : zG} {b L : Nat} {xs : Nat → Int32} (C : cx_C p l s m #[Value.ref b] meth c G x code 8 ret "BigDeskLaw" lw_tbl []) (S : va_X b L xs s s.heap ∧ b < s.heap.size ∧ G.2.2 = s.heap.size) {h0 : ah_H} {cells slots n9 : Nat} (hcl : cells + 0 + 10 * n9 ≤ 601024) (hsl : slots + 0 + 60 * n9 ≤ 7293033) {rc_23 : Nat → Nat → Nat → Int32 → ah_H → Prop} (hc_rc_23 : ∀ (cells slots : Nat), cells + 10 * n9 ≤ 601024 → slots + 60 * n9 ≤ 7293033 → ∀ (z0 : Nat) (z1 : Nat) (z2 : Nat) (z3 : Int32) (hz : ah_H) (H : Heap) (locs : List Loc) (ls : Array Slot), rc_23 z0 z1 z2 z3 hz → ah_m h0 hz → ah_W G s.heap hz H locs → lv_has ls 8 [(0, .ref b), (1, .ref z0), (2, .ref z1), (3, .ref z2), (4, .int z3)] → W p l e room_1 s m #[Value.ref b] below meth c H locs cells slots (lw_Z below #[Value.ref b] s) (F0 m 23 ls [])) (x502 : Nat) (x503 : Nat) (x504 : Nat) (x505 : Int32) (h506 : ah_H) (H : Heap) (locs : List Loc) (ls : Array Slot) (w : bk_LW_law_1353 rc_23 L xs x502 x503 x504 x505 h506) (hm : ah_m h0 h506) (hW : ah_W G s.heap h506 H locs) (hl : lv_has ls 8 [(0, .ref b), (1, .ref x502), (2, .ref x503), (3, .ref x504), (4, .int x505)]) : W p l e room_1 s m #[Value.ref b] below meth c H locs cells slots (lw_Z below #[Value.ref b] s) (F0 m 1353 ls []) := by
  unfold bk_LW_law_1353 at w
  obtain ⟨hx, hb, hr, hml, hown, hts, hT, hlk, hK, hX, htb, hin, hst⟩ := id C
  have hw : ∀ {w9 : Cond}, w9 ∈ zx_T → w9.before _ s = true := fun h9 => hts _ (hT _ h9)
  refine lv_goto (tgt := 1523) hx hb d_LW_law_1353 (by decide) ?_
  exact tb_LW_law_1523 C S (by omega) (by omega) hc_rc_23 x502 x503 x504 x505 h506 _ _ _ w hm hW (lv_sub hl [0, 1, 2, 3, 4] rfl)
set_option maxHeartbeats 4000000 in
set_option maxRecDepth 100000 in
theorem tb_LW_law_1347 {p : Program} {l : Launch} {e : Env} {s : State} {m : MethodId} {below : List Frame} {meth : Method} {c : Code} {G : zG} {b L : Nat} {xs : Nat → Int32} (C : cx_C p l s m #[Value.ref b] meth c G x code 8 ret "BigDeskLaw" lw_tbl []) (S : va_X b L xs s s.heap ∧ b < s.heap.size ∧ G.2.2 = s.heap.size) {h0 : ah_H} {cells slots n9 : Nat} (hcl : cells + 0 + 10 * n9 ≤ 601024) (hsl : slots + 0 + 60 * n9 ≤ 7293033) {rc_23 : Nat → Nat → Nat → Int32 → ah_H → Prop} (hc_rc_23 : ∀ (cells slots : Nat), cells + 10 * n9 ≤ 601024 → slots + 60 * n9 ≤ 7293033 → ∀ (z0 : Nat) (z1 : Nat) (z2 : Nat) (z3 : Int32) (hz : ah_H) (H : Heap) (locs : List Loc) (ls : Array Slot), rc_23 z0 z1 z2 z3 hz → ah_m h0 hz → ah_W G s.heap hz H locs → lv_has ls 8 [(0, .ref b), (1, .ref z0), (2, .ref z1), (3, .ref z2), (4, .int z3)] → W p l e room_1 s m #[Value.ref b] below meth c H locs cells slots (lw_Z below #[Value.ref b] s) (F0 m 23 ls [])) (x510 : Nat) (x511 : Nat) (x512 : Nat) (x513 : Int32) (s514 : Int64) (s515 : Int64) (h516 : ah_H) (H : Heap) (locs : List Loc) (ls : Array Slot) (w : bk_LW_law_1347 rc_23 L xs x510 x511 x512 x513 s514 s515 h516) (hm : ah_m h0 h516) (hW : ah_W G s.heap h516 H locs) (hl : lv_has ls 8 [(0, .ref b), (1, .ref x510), (2, .ref x511), (3, .ref x512), (4, .int x513)]) : W p l e room_1 s m #[Value.ref b] below meth c H locs cells slots (lw_Z below #[Value.ref b] s) (F0 m 1347 ls [.long s514, .long s515]) := by
  unfold bk_LW_law_1347 at w
  obtain ⟨hx, hb, hr, hml, hown, hts, hT, hlk, hK, hX, htb, hin, hst⟩ := id C
  have hw : ∀ {w9 : Cond}, w9 ∈ zx_T → w9.before _ s = true := fun h9 => hts _ (hT _ h9)
  refine hb_lcmp_eq (tgt := 1353) hx hb d_LW_law_1347 d_LW_law_1348 (by decide) (fun c517 => ?_) (fun c517 => ?_)
  · have w := w.1 c517
    exact tb_LW_law_1353 C S (by omega) (by omega) hc_rc_23 x510 x511 x512 x513 h516 _ _ _ w hm hW (lv_sub hl [0, 1, 2, 3, 4] rfl)
  · have w := w.2 c517
    refine lv_iconst (v := 0) hx hb d_LW_law_1351 (by decide) ?_
    exact w.elim
set_option maxHeartbeats 4000000 in
set_option maxRecDepth 100000 in
theorem tb_LW_law_1293 {p : Program} {l : Launch} {e : Env} {s : State} {m : MethodId} {below : List Frame} {meth : Method} {c : Code} {G : zG} {b L : Nat} {xs : Nat → Int32} (C : cx_C p l s m #[Value.ref b] meth c G x code 8 ret "BigDeskLaw" lw_tbl []) (S : va_X b L xs s s.heap ∧ b < s.heap.size ∧ G.2.2 = s.heap.size) {h0 : ah_H} {cells slots n9 : Nat} (hcl : cells + 1 + 10 * n9 ≤ 601024) (hsl : slots + 6 + 60 * n9 ≤ 7293033) {rc_23 : Nat → Nat → Nat → Int32 → ah_H → Prop} (hc_rc_23 : ∀ (cells slots : Nat), cells + 10 * n9 ≤ 601024 → slots + 60 * n9 ≤ 7293033 → ∀ (z0 : Nat) (z1 : Nat) (z2 : Nat) (z3 : Int32) (hz : ah_H) (H : Heap) (locs : List Loc) (ls : Array Slot), rc_23 z0 z1 z2 z3 hz → ah_m h0 hz → ah_W G s.heap hz H locs → lv_has ls 8 [(0, .ref b), (1, .ref z0), (2, .ref z1), (3, .ref z2), (4, .int z3)] → W p l e room_1 s m #[Value.ref b] below meth c H locs cells slots (lw_Z below #[Value.ref b] s) (F0 m 23 ls [])) (x481 : Nat) (x482 : Nat) (x483 : Nat) (x484 : Int32) (h485 : ah_H) (H : Heap) (locs : List Loc) (ls : Array Slot) (w : bk_LW_law_1293 rc_23 L xs x481 x482 x483 x484 h485) (hm : ah_m h0 h485) (hW : ah_W G s.heap h485 H locs) (hl : lv_has ls 8 [(0, .ref b), (1, .ref x481), (2, .ref x482), (3, .ref x483), (4, .int x484)]) : W p l e room_1 s m #[Value.ref b] below meth c H locs cells slots (lw_Z below #[Value.ref b] s) (F0 m 1293 ls []) := by
  unfold bk_LW_law_1293 at w
  obtain ⟨hx, hb, hr, hml, hown, hts, hT, hlk, hK, hX, htb, hin, hst⟩ := id C
  have hw : ∀ {w9 : Cond}, w9 ∈ zx_T → w9.before _ s = true := fun h9 => hts _ (hT _ h9)
  refine lv_aload_n hx hb d_LW_law_1293 rfl (lv_at hl 1 rfl) ?_
  refine lv_aload_n hx hb d_LW_law_1294 rfl (lv_at hl 0 rfl) ?_
  refine lv_iload hx hb d_LW_law_1295 (lv_at hl 4 rfl) ?_
  refine lv_iconst (v := 1) hx hb d_LW_law_1297 (by decide) ?_
  refine lv_iadd hx hb d_LW_law_1298 ?_
  obtain ⟨i486, w⟩ := w
  refine va_sld hx hb S.1 S.2.1 (by rw [S.2.2]; exact Nat.not_le.mpr S.2.1) hW.2.2 i486 d_LW_law_1299 ?_
  refine lv_aload_n hx hb d_LW_law_1300 rfl (lv_at hl 3 rfl) ?_
  refine hb_calli (vx_runSW (As := [.ref x481, .int (xs (x484 + (1 : Int32)).toNatClampNeg), .ref x483]) (rest := []) ⟨hx, hb, hml, hown, hts⟩ (m_LW_read G x481 (xs (x484 + (1 : Int32)).toNatClampNeg) x483 h485 hst w) (vx_cwSW 3 hts (zx_gS hT wd_551 wd_552 wd_0 wd_553) rfl rfl rfl (by decide +kernel) ⟨Nat.le_of_ble_eq_true rfl, Nat.le_of_ble_eq_true rfl⟩) (hb_preS hK hX hW) rfl rfl hl.1 rfl (lv_room (Nat.le_of_ble_eq_true rfl)) d_LW_law_1301 ⟨(by show _ ≤ 601024; omega), (by show _ ≤ 7293033; omega)⟩) hW (fun r488 h487 H locs hk hW => ?_)
  obtain ⟨w, mm489⟩ := hk
  have w := w mm489
  have hm := hm.tr mm489
  refine lv_istore (lv' := [(5, .int r488), (0, .ref b), (1, .ref x481), (2, .ref x482), (3, .ref x483), (4, .int x484)]) hx hb d_LW_law_1304 hl (by decide) rfl (fun ls hl => ?_)
  refine lv_aload_n hx hb d_LW_law_1306 rfl (lv_at hl 3 rfl) ?_
  refine lv_aload_n hx hb d_LW_law_1307 rfl (lv_at hl 1 rfl) ?_
  refine lv_iload hx hb d_LW_law_1308 (lv_at hl 5 rfl) ?_
  refine lv_iconst (v := 1) hx hb d_LW_law_1310 (by decide) ?_
  refine lv_iadd hx hb d_LW_law_1311 ?_
  obtain ⟨i490, w⟩ := w
  refine va_sld hx hb S.1 S.2.1 (by rw [S.2.2]; exact Nat.not_le.mpr S.2.1) hW.2.2 i490 d_LW_law_1312 ?_
  obtain ⟨t491, w⟩ := w
  refine hb_calli (va_runV (As := [.int (xs (x484 + (1 : Int32)).toNatClampNeg)]) (rest := []) ⟨hx, hb, hml, hown, hts⟩ (m_MO_read G x482 (xs (x484 + (1 : Int32)).toNatClampNeg) h487 hst w) (cwV 1 hts (zx_gV hT wd_821 wd_822 wd_823 wd_5 wd_824) rfl rfl rfl (by decide +kernel) ⟨Nat.le_of_ble_eq_true rfl, Nat.le_of_ble_eq_true rfl⟩) (hb_preV hK hX hW t491 (by decide) rfl) rfl rfl hl.1 rfl (lv_room (Nat.le_of_ble_eq_true rfl)) d_LW_law_1313 ⟨(by show _ ≤ 601024; omega), (by show _ ≤ 7293033; omega)⟩) hW (fun r493 h492 H locs hk hW => ?_)
  obtain ⟨w, mm494⟩ := hk
  have w := w mm494
  have hm := hm.tr mm494
  have t495 := mm494.tg t491 (by decide)
  refine lv_istore (lv' := [(6, .int r493), (5, .int r488), (0, .ref b), (1, .ref x481), (2, .ref x482), (3, .ref x483), (4, .int x484)]) hx hb d_LW_law_1316 hl (by decide) rfl (fun ls hl => ?_)
  refine lv_aload_n hx hb d_LW_law_1318 rfl (lv_at hl 4 rfl) ?_
  refine hb_calli (va_runV (As := []) (rest := []) ⟨hx, hb, hml, hown, hts⟩ (m_MO_thrown G x482 h492 hst w) (cwV 0 hts (zx_gV hT wd_672 wd_673 wd_674 wd_5 wd_675) rfl rfl rfl (by decide +kernel) ⟨Nat.le_of_ble_eq_true rfl, Nat.le_of_ble_eq_true rfl⟩) (hb_preV hK hX hW t495 (by decide) rfl) rfl rfl hl.1 rfl (lv_room (Nat.le_of_ble_eq_true rfl)) d_LW_law_1319 ⟨(by show _ ≤ 601024; omega), (by show _ ≤ 7293033; omega)⟩) hW (fun r497 h496 H locs hk hW => ?_)
  obtain ⟨w, mm498⟩ := hk
  have w := w mm498
  have hm := hm.tr mm498
  have t499 := mm498.tg t495 (by decide)
  refine lv_iload hx hb d_LW_law_1322 (lv_at hl 1 rfl) ?_
  refine lv_icmp_eq (tgt := 1329) hx hb d_LW_law_1324 (by decide) (fun c500 => ?_) (fun c500 => ?_)
  · have w := w.1 c500
    refine lv_iload hx hb d_LW_law_1329 (lv_at hl 1 rfl) ?_
    refine lv_if_ne (tgt := 1353) hx hb d_LW_law_1331 (by decide) (fun c501 => ?_) (fun c501 => ?_)
    · have w := w.1 c501
      exact tb_LW_law_1353 C S (by omega) (by omega) hc_rc_23 x481 x482 x483 x484 h496 _ _ _ w hm hW (lv_sub hl [2, 3, 4, 5, 6] rfl)
    · have w := w.2 c501
      refine lv_aload_n hx hb d_LW_law_1334 rfl (lv_at hl 5 rfl) ?_
      refine lv_iconst (v := 0) hx hb d_LW_law_1335 (by decide) ?_
      obtain ⟨t507, w⟩ := w
      obtain ⟨i508, w⟩ := w
      refine hb_lald hx hb hK hW t507 (by decide) (by decide) 2 rfl i508 d_LW_law_1336 ?_
      refine lv_iload hx hb d_LW_law_1337 (lv_at hl 0 rfl) ?_
      refine lv_if_eq (tgt := 1346) hx hb d_LW_law_1339 (by decide) (fun c509 => ?_) (fun c509 => ?_)
      · have w := w.1 c509
        refine lv_lconst (v := 0) hx hb d_LW_law_1346 (by decide) ?_
        exact tb_LW_law_1347 C S (by omega) (by omega) hc_rc_23 x481 x482 x483 x484 (0 : Int64) (ah_bL h496 x483 (0 : Int32).toNatClampNeg) h496 _ _ _ w hm hW (lv_sub hl [2, 3, 4, 5, 6] rfl)
      · have w := w.2 c509
        refine lv_lconst (v := 1) hx hb d_LW_law_1342 (by decide) ?_
        refine lv_goto (tgt := 1347) hx hb d_LW_law_1343 (by decide) ?_
        exact tb_LW_law_1347 C S (by omega) (by omega) hc_rc_23 x481 x482 x483 x484 (1 : Int64) (ah_bL h496 x483 (0 : Int32).toNatClampNeg) h496 _ _ _ w hm hW (lv_sub hl [2, 3, 4, 5, 6] rfl)
  · have w := w.2 c500
    refine lv_iconst (v := 0) hx hb d_LW_law_1327 (by decide) ?_
    exact w.elim
set_option maxHeartbeats 4000000 in
set_option maxRecDepth 100000 in
theorem tb_LW_law_1409 {p : Program} {l : Launch} {e : Env} {s : State} {m : MethodId} {below : List Frame} {meth : Method} {c : Code} {G : zG} {b L : Nat} {xs : Nat → Int32} (C : cx_C p l s m #[Value.ref b] meth c G x code 8 ret "BigDeskLaw" lw_tbl []) (S : va_X b L xs s s.heap ∧ b < s.heap.size ∧ G.2.2 = s.heap.size) {h0 : ah_H} {cells slots n9 : Nat} (hcl : cells + 0 + 10 * n9 ≤ 601024) (hsl : slots + 0 + 60 * n9 ≤ 7293033) {rc_23 : Nat → Nat → Nat → Int32 → ah_H → Prop} (hc_rc_23 : ∀ (cells slots : Nat), cells + 10 * n9 ≤ 601024 → slots + 60 * n9 ≤ 7293033 → ∀ (z0 : Nat) (z1 : Nat) (z2 : Nat) (z3 : Int32) (hz : ah_H) (H : Heap) (locs : List Loc) (ls : Array Slot), rc_23 z0 z1 z2 z3 hz → ah_m h0 hz → ah_W G s.heap hz H locs → lv_has ls 8 [(0, .ref b), (1, .ref z0), (2, .ref z1), (3, .ref z2), (4, .int z3)] → W p l e room_1 s m #[Value.ref b] below meth c H locs cells slots (lw_Z below #[Value.ref b] s) (F0 m 23 ls [])) (x539 : Nat) (x540 : Nat) (x541 : Nat) (x542 : Int32) (h543 : ah_H) (H : Heap) (locs : List Loc) (ls : Array Slot) (w : bk_LW_law_1409 rc_23 L xs x539 x540 x541 x542 h543) (hm : ah_m h0 h543) (hW : ah_W G s.heap h543 H locs) (hl : lv_has ls 8 [(0, .ref b), (1, .ref x539), (2, .ref x540), (3, .ref x541), (4, .int x542)]) : W p l e room_1 s m #[Value.ref b] below meth c H locs cells slots (lw_Z below #[Value.ref b] s) (F0 m 1409 ls []) := by
  unfold bk_LW_law_1409 at w
  obtain ⟨hx, hb, hr, hml, hown, hts, hT, hlk, hK, hX, htb, hin, hst⟩ := id C
  have hw : ∀ {w9 : Cond}, w9 ∈ zx_T → w9.before _ s = true := fun h9 => hts _ (hT _ h9)
  refine lv_goto (tgt := 1523) hx hb d_LW_law_1409 (by decide) ?_
  exact tb_LW_law_1523 C S (by omega) (by omega) hc_rc_23 x539 x540 x541 x542 h543 _ _ _ w hm hW (lv_sub hl [0, 1, 2, 3, 4] rfl)
set_option maxHeartbeats 4000000 in
set_option maxRecDepth 100000 in
theorem tb_LW_law_1356 {p : Program} {l : Launch} {e : Env} {s : State} {m : MethodId} {below : List Frame} {meth : Method} {c : Code} {G : zG} {b L : Nat} {xs : Nat → Int32} (C : cx_C p l s m #[Value.ref b] meth c G x code 8 ret "BigDeskLaw" lw_tbl []) (S : va_X b L xs s s.heap ∧ b < s.heap.size ∧ G.2.2 = s.heap.size) {h0 : ah_H} {cells slots n9 : Nat} (hcl : cells + 1 + 10 * n9 ≤ 601024) (hsl : slots + 6 + 60 * n9 ≤ 7293033) {rc_23 : Nat → Nat → Nat → Int32 → ah_H → Prop} (hc_rc_23 : ∀ (cells slots : Nat), cells + 10 * n9 ≤ 601024 → slots + 60 * n9 ≤ 7293033 → ∀ (z0 : Nat) (z1 : Nat) (z2 : Nat) (z3 : Int32) (hz : ah_H) (H : Heap) (locs : List Loc) (ls : Array Slot), rc_23 z0 z1 z2 z3 hz → ah_m h0 hz → ah_W G s.heap hz H locs → lv_has ls 8 [(0, .ref b), (1, .ref z0), (2, .ref z1), (3, .ref z2), (4, .int z3)] → W p l e room_1 s m #[Value.ref b] below meth c H locs cells slots (lw_Z below #[Value.ref b] s) (F0 m 23 ls [])) (x518 : Nat) (x519 : Nat) (x520 : Nat) (x521 : Int32) (h522 : ah_H) (H : Heap) (locs : List Loc) (ls : Array Slot) (w : bk_LW_law_1356 rc_23 L xs x518 x519 x520 x521 h522) (hm : ah_m h0 h522) (hW : ah_W G s.heap h522 H locs) (hl : lv_has ls 8 [(0, .ref b), (1, .ref x518), (2, .ref x519), (3, .ref x520), (4, .int x521)]) : W p l e room_1 s m #[Value.ref b] below meth c H locs cells slots (lw_Z below #[Value.ref b] s) (F0 m 1356 ls []) := by
  unfold bk_LW_law_1356 at w
  obtain ⟨hx, hb, hr, hml, hown, hts, hT, hlk, hK, hX, htb, hin, hst⟩ := id C
  have hw : ∀ {w9 : Cond}, w9 ∈ zx_T → w9.before _ s = true := fun h9 => hts _ (hT _ h9)
  refine lv_aload_n hx hb d_LW_law_1356 rfl (lv_at hl 1 rfl) ?_
  refine lv_aload_n hx hb d_LW_law_1357 rfl (lv_at hl 0 rfl) ?_
  refine lv_iload hx hb d_LW_law_1358 (lv_at hl 4 rfl) ?_
  refine lv_iconst (v := 1) hx hb d_LW_law_1360 (by decide) ?_
  refine lv_iadd hx hb d_LW_law_1361 ?_
  obtain ⟨i523, w⟩ := w
  refine va_sld hx hb S.1 S.2.1 (by rw [S.2.2]; exact Nat.not_le.mpr S.2.1) hW.2.2 i523 d_LW_law_1362 ?_
  refine lv_aload_n hx hb d_LW_law_1363 rfl (lv_at hl 3 rfl) ?_
  refine hb_calli (vx_runSW (As := [.ref x518, .int (xs (x521 + (1 : Int32)).toNatClampNeg), .ref x520]) (rest := []) ⟨hx, hb, hml, hown, hts⟩ (m_LW_write G x518 (xs (x521 + (1 : Int32)).toNatClampNeg) x520 h522 hst w) (vx_cwSW 3 hts (zx_gS hT wd_573 wd_574 wd_0 wd_575) rfl rfl rfl (by decide +kernel) ⟨Nat.le_of_ble_eq_true rfl, Nat.le_of_ble_eq_true rfl⟩) (hb_preS hK hX hW) rfl rfl hl.1 rfl (lv_room (Nat.le_of_ble_eq_true rfl)) d_LW_law_1364 ⟨(by show _ ≤ 601024; omega), (by show _ ≤ 7293033; omega)⟩) hW (fun r525 h524 H locs hk hW => ?_)
  obtain ⟨w, mm526⟩ := hk
  have w := w mm526
  have hm := hm.tr mm526
  refine lv_istore (lv' := [(5, .int r525), (0, .ref b), (1, .ref x518), (2, .ref x519), (3, .ref x520), (4, .int x521)]) hx hb d_LW_law_1367 hl (by decide) rfl (fun ls hl => ?_)
  refine lv_aload_n hx hb d_LW_law_1369 rfl (lv_at hl 3 rfl) ?_
  refine lv_aload_n hx hb d_LW_law_1370 rfl (lv_at hl 1 rfl) ?_
  refine lv_iload hx hb d_LW_law_1371 (lv_at hl 5 rfl) ?_
  refine lv_iconst (v := 1) hx hb d_LW_law_1373 (by decide) ?_
  refine lv_iadd hx hb d_LW_law_1374 ?_
  obtain ⟨i527, w⟩ := w
  refine va_sld hx hb S.1 S.2.1 (by rw [S.2.2]; exact Nat.not_le.mpr S.2.1) hW.2.2 i527 d_LW_law_1375 ?_
  obtain ⟨t528, w⟩ := w
  refine hb_calli (va_runV (As := [.int (xs (x521 + (1 : Int32)).toNatClampNeg)]) (rest := []) ⟨hx, hb, hml, hown, hts⟩ (m_MO_write G x519 (xs (x521 + (1 : Int32)).toNatClampNeg) h524 hst w) (cwV 1 hts (zx_gV hT wd_829 wd_830 wd_831 wd_5 wd_832) rfl rfl rfl (by decide +kernel) ⟨Nat.le_of_ble_eq_true rfl, Nat.le_of_ble_eq_true rfl⟩) (hb_preV hK hX hW t528 (by decide) rfl) rfl rfl hl.1 rfl (lv_room (Nat.le_of_ble_eq_true rfl)) d_LW_law_1376 ⟨(by show _ ≤ 601024; omega), (by show _ ≤ 7293033; omega)⟩) hW (fun r530 h529 H locs hk hW => ?_)
  obtain ⟨w, mm531⟩ := hk
  have w := w mm531
  have hm := hm.tr mm531
  have t532 := mm531.tg t528 (by decide)
  refine lv_istore (lv' := [(6, .int r530), (5, .int r525), (0, .ref b), (1, .ref x518), (2, .ref x519), (3, .ref x520), (4, .int x521)]) hx hb d_LW_law_1379 hl (by decide) rfl (fun ls hl => ?_)
  refine lv_aload_n hx hb d_LW_law_1381 rfl (lv_at hl 4 rfl) ?_
  refine hb_calli (va_runV (As := []) (rest := []) ⟨hx, hb, hml, hown, hts⟩ (m_MO_thrown G x519 h529 hst w) (cwV 0 hts (zx_gV hT wd_672 wd_673 wd_674 wd_5 wd_675) rfl rfl rfl (by decide +kernel) ⟨Nat.le_of_ble_eq_true rfl, Nat.le_of_ble_eq_true rfl⟩) (hb_preV hK hX hW t532 (by decide) rfl) rfl rfl hl.1 rfl (lv_room (Nat.le_of_ble_eq_true rfl)) d_LW_law_1382 ⟨(by show _ ≤ 601024; omega), (by show _ ≤ 7293033; omega)⟩) hW (fun r534 h533 H locs hk hW => ?_)
  obtain ⟨w, mm535⟩ := hk
  have w := w mm535
  have hm := hm.tr mm535
  have t536 := mm535.tg t532 (by decide)
  refine lv_iload hx hb d_LW_law_1385 (lv_at hl 1 rfl) ?_
  refine lv_icmp_eq (tgt := 1392) hx hb d_LW_law_1387 (by decide) (fun c537 => ?_) (fun c537 => ?_)
  · have w := w.1 c537
    refine lv_iload hx hb d_LW_law_1392 (lv_at hl 1 rfl) ?_
    refine lv_if_ne (tgt := 1409) hx hb d_LW_law_1394 (by decide) (fun c538 => ?_) (fun c538 => ?_)
    · have w := w.1 c538
      exact tb_LW_law_1409 C S (by omega) (by omega) hc_rc_23 x518 x519 x520 x521 h533 _ _ _ w hm hW (lv_sub hl [2, 3, 4, 5, 6] rfl)
    · have w := w.2 c538
      refine lv_aload_n hx hb d_LW_law_1397 rfl (lv_at hl 5 rfl) ?_
      refine lv_iconst (v := 0) hx hb d_LW_law_1398 (by decide) ?_
      obtain ⟨t544, w⟩ := w
      obtain ⟨i545, w⟩ := w
      refine hb_lald hx hb hK hW t544 (by decide) (by decide) 2 rfl i545 d_LW_law_1399 ?_
      refine lv_iload hx hb d_LW_law_1400 (lv_at hl 0 rfl) ?_
      refine lv_i2l hx hb d_LW_law_1402 rfl ?_
      refine hb_lcmp_eq (tgt := 1409) hx hb d_LW_law_1403 d_LW_law_1404 (by decide) (fun c546 => ?_) (fun c546 => ?_)
      · have w := w.1 c546
        exact tb_LW_law_1409 C S (by omega) (by omega) hc_rc_23 x518 x519 x520 x521 h533 _ _ _ w hm hW (lv_sub hl [2, 3, 4, 5, 6] rfl)
      · have w := w.2 c546
        refine lv_iconst (v := 0) hx hb d_LW_law_1407 (by decide) ?_
        exact w.elim
  · have w := w.2 c537
    refine lv_iconst (v := 0) hx hb d_LW_law_1390 (by decide) ?_
    exact w.elim
set_option maxHeartbeats 4000000 in
set_option maxRecDepth 100000 in
theorem tb_LW_law_1464 {p : Program} {l : Launch} {e : Env} {s : State} {m : MethodId} {below : List Frame} {meth : Method} {c : Code} {G : zG} {b L : Nat} {xs : Nat → Int32} (C : cx_C p l s m #[Value.ref b] meth c G x code 8 ret "BigDeskLaw" lw_tbl []) (S : va_X b L xs s s.heap ∧ b < s.heap.size ∧ G.2.2 = s.heap.size) {h0 : ah_H} {cells slots n9 : Nat} (hcl : cells + 0 + 10 * n9 ≤ 601024) (hsl : slots + 0 + 60 * n9 ≤ 7293033) {rc_23 : Nat → Nat → Nat → Int32 → ah_H → Prop} (hc_rc_23 : ∀ (cells slots : Nat), cells + 10 * n9 ≤ 601024 → slots + 60 * n9 ≤ 7293033 → ∀ (z0 : Nat) (z1 : Nat) (z2 : Nat) (z3 : Int32) (hz : ah_H) (H : Heap) (locs : List Loc) (ls : Array Slot), rc_23 z0 z1 z2 z3 hz → ah_m h0 hz → ah_W G s.heap hz H locs → lv_has ls 8 [(0, .ref b), (1, .ref z0), (2, .ref z1), (3, .ref z2), (4, .int z3)] → W p l e room_1 s m #[Value.ref b] below meth c H locs cells slots (lw_Z below #[Value.ref b] s) (F0 m 23 ls [])) (x568 : Nat) (x569 : Nat) (x570 : Nat) (x571 : Int32) (h572 : ah_H) (H : Heap) (locs : List Loc) (ls : Array Slot) (w : bk_LW_law_1464 rc_23 L xs x568 x569 x570 x571 h572) (hm : ah_m h0 h572) (hW : ah_W G s.heap h572 H locs) (hl : lv_has ls 8 [(0, .ref b), (1, .ref x568), (2, .ref x569), (3, .ref x570), (4, .int x571)]) : W p l e room_1 s m #[Value.ref b] below meth c H locs cells slots (lw_Z below #[Value.ref b] s) (F0 m 1464 ls []) := by
  unfold bk_LW_law_1464 at w
  obtain ⟨hx, hb, hr, hml, hown, hts, hT, hlk, hK, hX, htb, hin, hst⟩ := id C
  have hw : ∀ {w9 : Cond}, w9 ∈ zx_T → w9.before _ s = true := fun h9 => hts _ (hT _ h9)
  refine lv_goto (tgt := 1523) hx hb d_LW_law_1464 (by decide) ?_
  exact tb_LW_law_1523 C S (by omega) (by omega) hc_rc_23 x568 x569 x570 x571 h572 _ _ _ w hm hW (lv_sub hl [0, 1, 2, 3, 4] rfl)
set_option maxHeartbeats 4000000 in
set_option maxRecDepth 100000 in
theorem tb_LW_law_1412 {p : Program} {l : Launch} {e : Env} {s : State} {m : MethodId} {below : List Frame} {meth : Method} {c : Code} {G : zG} {b L : Nat} {xs : Nat → Int32} (C : cx_C p l s m #[Value.ref b] meth c G x code 8 ret "BigDeskLaw" lw_tbl []) (S : va_X b L xs s s.heap ∧ b < s.heap.size ∧ G.2.2 = s.heap.size) {h0 : ah_H} {cells slots n9 : Nat} (hcl : cells + 1 + 10 * n9 ≤ 601024) (hsl : slots + 6 + 60 * n9 ≤ 7293033) {rc_23 : Nat → Nat → Nat → Int32 → ah_H → Prop} (hc_rc_23 : ∀ (cells slots : Nat), cells + 10 * n9 ≤ 601024 → slots + 60 * n9 ≤ 7293033 → ∀ (z0 : Nat) (z1 : Nat) (z2 : Nat) (z3 : Int32) (hz : ah_H) (H : Heap) (locs : List Loc) (ls : Array Slot), rc_23 z0 z1 z2 z3 hz → ah_m h0 hz → ah_W G s.heap hz H locs → lv_has ls 8 [(0, .ref b), (1, .ref z0), (2, .ref z1), (3, .ref z2), (4, .int z3)] → W p l e room_1 s m #[Value.ref b] below meth c H locs cells slots (lw_Z below #[Value.ref b] s) (F0 m 23 ls [])) (x547 : Nat) (x548 : Nat) (x549 : Nat) (x550 : Int32) (h551 : ah_H) (H : Heap) (locs : List Loc) (ls : Array Slot) (w : bk_LW_law_1412 rc_23 L xs x547 x548 x549 x550 h551) (hm : ah_m h0 h551) (hW : ah_W G s.heap h551 H locs) (hl : lv_has ls 8 [(0, .ref b), (1, .ref x547), (2, .ref x548), (3, .ref x549), (4, .int x550)]) : W p l e room_1 s m #[Value.ref b] below meth c H locs cells slots (lw_Z below #[Value.ref b] s) (F0 m 1412 ls []) := by
  unfold bk_LW_law_1412 at w
  obtain ⟨hx, hb, hr, hml, hown, hts, hT, hlk, hK, hX, htb, hin, hst⟩ := id C
  have hw : ∀ {w9 : Cond}, w9 ∈ zx_T → w9.before _ s = true := fun h9 => hts _ (hT _ h9)
  refine lv_aload_n hx hb d_LW_law_1412 rfl (lv_at hl 1 rfl) ?_
  refine lv_aload_n hx hb d_LW_law_1413 rfl (lv_at hl 0 rfl) ?_
  refine lv_iload hx hb d_LW_law_1414 (lv_at hl 4 rfl) ?_
  refine lv_iconst (v := 1) hx hb d_LW_law_1416 (by decide) ?_
  refine lv_iadd hx hb d_LW_law_1417 ?_
  obtain ⟨i552, w⟩ := w
  refine va_sld hx hb S.1 S.2.1 (by rw [S.2.2]; exact Nat.not_le.mpr S.2.1) hW.2.2 i552 d_LW_law_1418 ?_
  refine lv_aload_n hx hb d_LW_law_1419 rfl (lv_at hl 3 rfl) ?_
  refine hb_calli (vx_runSW (As := [.ref x547, .int (xs (x550 + (1 : Int32)).toNatClampNeg), .ref x549]) (rest := []) ⟨hx, hb, hml, hown, hts⟩ (m_LW_out G x547 (xs (x550 + (1 : Int32)).toNatClampNeg) x549 h551 hst w) (vx_cwSW 3 hts (zx_gS hT wd_594 wd_595 wd_0 wd_596) rfl rfl rfl (by decide +kernel) ⟨Nat.le_of_ble_eq_true rfl, Nat.le_of_ble_eq_true rfl⟩) (hb_preS hK hX hW) rfl rfl hl.1 rfl (lv_room (Nat.le_of_ble_eq_true rfl)) d_LW_law_1420 ⟨(by show _ ≤ 601024; omega), (by show _ ≤ 7293033; omega)⟩) hW (fun r554 h553 H locs hk hW => ?_)
  obtain ⟨w, mm555⟩ := hk
  have w := w mm555
  have hm := hm.tr mm555
  refine lv_istore (lv' := [(5, .int r554), (0, .ref b), (1, .ref x547), (2, .ref x548), (3, .ref x549), (4, .int x550)]) hx hb d_LW_law_1423 hl (by decide) rfl (fun ls hl => ?_)
  refine lv_aload_n hx hb d_LW_law_1425 rfl (lv_at hl 3 rfl) ?_
  refine lv_aload_n hx hb d_LW_law_1426 rfl (lv_at hl 1 rfl) ?_
  refine lv_iload hx hb d_LW_law_1427 (lv_at hl 5 rfl) ?_
  refine lv_iconst (v := 1) hx hb d_LW_law_1429 (by decide) ?_
  refine lv_iadd hx hb d_LW_law_1430 ?_
  obtain ⟨i556, w⟩ := w
  refine va_sld hx hb S.1 S.2.1 (by rw [S.2.2]; exact Nat.not_le.mpr S.2.1) hW.2.2 i556 d_LW_law_1431 ?_
  obtain ⟨t557, w⟩ := w
  refine hb_calll (va_runV (As := [.int (xs (x550 + (1 : Int32)).toNatClampNeg)]) (rest := []) ⟨hx, hb, hml, hown, hts⟩ (m_MO_out G x548 (xs (x550 + (1 : Int32)).toNatClampNeg) h553 hst w) (cwV 1 hts (zx_gV hT wd_837 wd_838 wd_839 wd_5 wd_840) rfl rfl rfl (by decide +kernel) ⟨Nat.le_of_ble_eq_true rfl, Nat.le_of_ble_eq_true rfl⟩) (hb_preV hK hX hW t557 (by decide) rfl) rfl rfl hl.1 rfl (lv_room (Nat.le_of_ble_eq_true rfl)) d_LW_law_1432 ⟨(by show _ ≤ 601024; omega), (by show _ ≤ 7293033; omega)⟩) hW (fun r559 h558 H locs hk hW => ?_)
  obtain ⟨w, mm560⟩ := hk
  have w := w mm560
  have hm := hm.tr mm560
  have t561 := mm560.tg t557 (by decide)
  refine lv_lstore (lv' := [(6, .long r559), (5, .int r554), (0, .ref b), (1, .ref x547), (2, .ref x548), (3, .ref x549), (4, .int x550)]) hx hb d_LW_law_1435 hl (by decide) rfl (fun ls hl => ?_)
  refine lv_aload_n hx hb d_LW_law_1437 rfl (lv_at hl 4 rfl) ?_
  refine hb_calli (va_runV (As := []) (rest := []) ⟨hx, hb, hml, hown, hts⟩ (m_MO_thrown G x548 h558 hst w) (cwV 0 hts (zx_gV hT wd_672 wd_673 wd_674 wd_5 wd_675) rfl rfl rfl (by decide +kernel) ⟨Nat.le_of_ble_eq_true rfl, Nat.le_of_ble_eq_true rfl⟩) (hb_preV hK hX hW t561 (by decide) rfl) rfl rfl hl.1 rfl (lv_room (Nat.le_of_ble_eq_true rfl)) d_LW_law_1438 ⟨(by show _ ≤ 601024; omega), (by show _ ≤ 7293033; omega)⟩) hW (fun r563 h562 H locs hk hW => ?_)
  obtain ⟨w, mm564⟩ := hk
  have w := w mm564
  have hm := hm.tr mm564
  have t565 := mm564.tg t561 (by decide)
  refine lv_iload hx hb d_LW_law_1441 (lv_at hl 1 rfl) ?_
  refine lv_icmp_eq (tgt := 1448) hx hb d_LW_law_1443 (by decide) (fun c566 => ?_) (fun c566 => ?_)
  · have w := w.1 c566
    refine lv_iload hx hb d_LW_law_1448 (lv_at hl 1 rfl) ?_
    refine lv_if_ne (tgt := 1464) hx hb d_LW_law_1450 (by decide) (fun c567 => ?_) (fun c567 => ?_)
    · have w := w.1 c567
      exact tb_LW_law_1464 C S (by omega) (by omega) hc_rc_23 x547 x548 x549 x550 h562 _ _ _ w hm hW (lv_sub hl [2, 3, 4, 5, 6] rfl)
    · have w := w.2 c567
      refine lv_aload_n hx hb d_LW_law_1453 rfl (lv_at hl 5 rfl) ?_
      refine lv_iconst (v := 0) hx hb d_LW_law_1454 (by decide) ?_
      obtain ⟨t573, w⟩ := w
      obtain ⟨i574, w⟩ := w
      refine hb_lald hx hb hK hW t573 (by decide) (by decide) 2 rfl i574 d_LW_law_1455 ?_
      refine lv_lload hx hb d_LW_law_1456 (lv_at hl 0 rfl) ?_
      refine hb_lcmp_eq (tgt := 1464) hx hb d_LW_law_1458 d_LW_law_1459 (by decide) (fun c575 => ?_) (fun c575 => ?_)
      · have w := w.1 c575
        exact tb_LW_law_1464 C S (by omega) (by omega) hc_rc_23 x547 x548 x549 x550 h562 _ _ _ w hm hW (lv_sub hl [2, 3, 4, 5, 6] rfl)
      · have w := w.2 c575
        refine lv_iconst (v := 0) hx hb d_LW_law_1462 (by decide) ?_
        exact w.elim
  · have w := w.2 c566
    refine lv_iconst (v := 0) hx hb d_LW_law_1446 (by decide) ?_
    exact w.elim
set_option maxHeartbeats 4000000 in
set_option maxRecDepth 100000 in
theorem tb_LW_law_1520 {p : Program} {l : Launch} {e : Env} {s : State} {m : MethodId} {below : List Frame} {meth : Method} {c : Code} {G : zG} {b L : Nat} {xs : Nat → Int32} (C : cx_C p l s m #[Value.ref b] meth c G x code 8 ret "BigDeskLaw" lw_tbl []) (S : va_X b L xs s s.heap ∧ b < s.heap.size ∧ G.2.2 = s.heap.size) {h0 : ah_H} {cells slots n9 : Nat} (hcl : cells + 0 + 10 * n9 ≤ 601024) (hsl : slots + 0 + 60 * n9 ≤ 7293033) {rc_23 : Nat → Nat → Nat → Int32 → ah_H → Prop} (hc_rc_23 : ∀ (cells slots : Nat), cells + 10 * n9 ≤ 601024 → slots + 60 * n9 ≤ 7293033 → ∀ (z0 : Nat) (z1 : Nat) (z2 : Nat) (z3 : Int32) (hz : ah_H) (H : Heap) (locs : List Loc) (ls : Array Slot), rc_23 z0 z1 z2 z3 hz → ah_m h0 hz → ah_W G s.heap hz H locs → lv_has ls 8 [(0, .ref b), (1, .ref z0), (2, .ref z1), (3, .ref z2), (4, .int z3)] → W p l e room_1 s m #[Value.ref b] below meth c H locs cells slots (lw_Z below #[Value.ref b] s) (F0 m 23 ls [])) (x597 : Nat) (x598 : Nat) (x599 : Nat) (x600 : Int32) (h601 : ah_H) (H : Heap) (locs : List Loc) (ls : Array Slot) (w : bk_LW_law_1520 rc_23 L xs x597 x598 x599 x600 h601) (hm : ah_m h0 h601) (hW : ah_W G s.heap h601 H locs) (hl : lv_has ls 8 [(0, .ref b), (1, .ref x597), (2, .ref x598), (3, .ref x599), (4, .int x600)]) : W p l e room_1 s m #[Value.ref b] below meth c H locs cells slots (lw_Z below #[Value.ref b] s) (F0 m 1520 ls []) := by
  unfold bk_LW_law_1520 at w
  obtain ⟨hx, hb, hr, hml, hown, hts, hT, hlk, hK, hX, htb, hin, hst⟩ := id C
  have hw : ∀ {w9 : Cond}, w9 ∈ zx_T → w9.before _ s = true := fun h9 => hts _ (hT _ h9)
  refine lv_goto (tgt := 1523) hx hb d_LW_law_1520 (by decide) ?_
  exact tb_LW_law_1523 C S (by omega) (by omega) hc_rc_23 x597 x598 x599 x600 h601 _ _ _ w hm hW (lv_sub hl [0, 1, 2, 3, 4] rfl)
set_option maxHeartbeats 4000000 in
set_option maxRecDepth 100000 in
theorem tb_LW_law_1467 {p : Program} {l : Launch} {e : Env} {s : State} {m : MethodId} {below : List Frame} {meth : Method} {c : Code} {G : zG} {b L : Nat} {xs : Nat → Int32} (C : cx_C p l s m #[Value.ref b] meth c G x code 8 ret "BigDeskLaw" lw_tbl []) (S : va_X b L xs s s.heap ∧ b < s.heap.size ∧ G.2.2 = s.heap.size) {h0 : ah_H} {cells slots n9 : Nat} (hcl : cells + 1 + 10 * n9 ≤ 601024) (hsl : slots + 6 + 60 * n9 ≤ 7293033) {rc_23 : Nat → Nat → Nat → Int32 → ah_H → Prop} (hc_rc_23 : ∀ (cells slots : Nat), cells + 10 * n9 ≤ 601024 → slots + 60 * n9 ≤ 7293033 → ∀ (z0 : Nat) (z1 : Nat) (z2 : Nat) (z3 : Int32) (hz : ah_H) (H : Heap) (locs : List Loc) (ls : Array Slot), rc_23 z0 z1 z2 z3 hz → ah_m h0 hz → ah_W G s.heap hz H locs → lv_has ls 8 [(0, .ref b), (1, .ref z0), (2, .ref z1), (3, .ref z2), (4, .int z3)] → W p l e room_1 s m #[Value.ref b] below meth c H locs cells slots (lw_Z below #[Value.ref b] s) (F0 m 23 ls [])) (x576 : Nat) (x577 : Nat) (x578 : Nat) (x579 : Int32) (h580 : ah_H) (H : Heap) (locs : List Loc) (ls : Array Slot) (w : bk_LW_law_1467 rc_23 L xs x576 x577 x578 x579 h580) (hm : ah_m h0 h580) (hW : ah_W G s.heap h580 H locs) (hl : lv_has ls 8 [(0, .ref b), (1, .ref x576), (2, .ref x577), (3, .ref x578), (4, .int x579)]) : W p l e room_1 s m #[Value.ref b] below meth c H locs cells slots (lw_Z below #[Value.ref b] s) (F0 m 1467 ls []) := by
  unfold bk_LW_law_1467 at w
  obtain ⟨hx, hb, hr, hml, hown, hts, hT, hlk, hK, hX, htb, hin, hst⟩ := id C
  have hw : ∀ {w9 : Cond}, w9 ∈ zx_T → w9.before _ s = true := fun h9 => hts _ (hT _ h9)
  refine lv_aload_n hx hb d_LW_law_1467 rfl (lv_at hl 1 rfl) ?_
  refine lv_aload_n hx hb d_LW_law_1468 rfl (lv_at hl 0 rfl) ?_
  refine lv_iload hx hb d_LW_law_1469 (lv_at hl 4 rfl) ?_
  refine lv_iconst (v := 1) hx hb d_LW_law_1471 (by decide) ?_
  refine lv_iadd hx hb d_LW_law_1472 ?_
  obtain ⟨i581, w⟩ := w
  refine va_sld hx hb S.1 S.2.1 (by rw [S.2.2]; exact Nat.not_le.mpr S.2.1) hW.2.2 i581 d_LW_law_1473 ?_
  refine lv_aload_n hx hb d_LW_law_1474 rfl (lv_at hl 3 rfl) ?_
  refine hb_calli (vx_runSW (As := [.ref x576, .int (xs (x579 + (1 : Int32)).toNatClampNeg), .ref x578]) (rest := []) ⟨hx, hb, hml, hown, hts⟩ (m_LW_text G x576 (xs (x579 + (1 : Int32)).toNatClampNeg) x578 h580 hst w) (vx_cwSW 3 hts (zx_gS hT wd_619 wd_620 wd_0 wd_621) rfl rfl rfl (by decide +kernel) ⟨Nat.le_of_ble_eq_true rfl, Nat.le_of_ble_eq_true rfl⟩) (hb_preS hK hX hW) rfl rfl hl.1 rfl (lv_room (Nat.le_of_ble_eq_true rfl)) d_LW_law_1475 ⟨(by show _ ≤ 601024; omega), (by show _ ≤ 7293033; omega)⟩) hW (fun r583 h582 H locs hk hW => ?_)
  obtain ⟨w, mm584⟩ := hk
  have w := w mm584
  have hm := hm.tr mm584
  refine lv_istore (lv' := [(5, .int r583), (0, .ref b), (1, .ref x576), (2, .ref x577), (3, .ref x578), (4, .int x579)]) hx hb d_LW_law_1478 hl (by decide) rfl (fun ls hl => ?_)
  refine lv_aload_n hx hb d_LW_law_1480 rfl (lv_at hl 3 rfl) ?_
  refine lv_aload_n hx hb d_LW_law_1481 rfl (lv_at hl 1 rfl) ?_
  refine lv_iload hx hb d_LW_law_1482 (lv_at hl 5 rfl) ?_
  refine lv_iconst (v := 1) hx hb d_LW_law_1484 (by decide) ?_
  refine lv_iadd hx hb d_LW_law_1485 ?_
  obtain ⟨i585, w⟩ := w
  refine va_sld hx hb S.1 S.2.1 (by rw [S.2.2]; exact Nat.not_le.mpr S.2.1) hW.2.2 i585 d_LW_law_1486 ?_
  obtain ⟨t586, w⟩ := w
  refine hb_calli (va_runV (As := [.int (xs (x579 + (1 : Int32)).toNatClampNeg)]) (rest := []) ⟨hx, hb, hml, hown, hts⟩ (m_MO_text G x577 (xs (x579 + (1 : Int32)).toNatClampNeg) h582 hst w) (cwV 1 hts (zx_gV hT wd_841 wd_842 wd_843 wd_5 wd_844) rfl rfl rfl (by decide +kernel) ⟨Nat.le_of_ble_eq_true rfl, Nat.le_of_ble_eq_true rfl⟩) (hb_preV hK hX hW t586 (by decide) rfl) rfl rfl hl.1 rfl (lv_room (Nat.le_of_ble_eq_true rfl)) d_LW_law_1487 ⟨(by show _ ≤ 601024; omega), (by show _ ≤ 7293033; omega)⟩) hW (fun r588 h587 H locs hk hW => ?_)
  obtain ⟨w, mm589⟩ := hk
  have w := w mm589
  have hm := hm.tr mm589
  have t590 := mm589.tg t586 (by decide)
  refine lv_istore (lv' := [(6, .int r588), (5, .int r583), (0, .ref b), (1, .ref x576), (2, .ref x577), (3, .ref x578), (4, .int x579)]) hx hb d_LW_law_1490 hl (by decide) rfl (fun ls hl => ?_)
  refine lv_aload_n hx hb d_LW_law_1492 rfl (lv_at hl 4 rfl) ?_
  refine hb_calli (va_runV (As := []) (rest := []) ⟨hx, hb, hml, hown, hts⟩ (m_MO_thrown G x577 h587 hst w) (cwV 0 hts (zx_gV hT wd_672 wd_673 wd_674 wd_5 wd_675) rfl rfl rfl (by decide +kernel) ⟨Nat.le_of_ble_eq_true rfl, Nat.le_of_ble_eq_true rfl⟩) (hb_preV hK hX hW t590 (by decide) rfl) rfl rfl hl.1 rfl (lv_room (Nat.le_of_ble_eq_true rfl)) d_LW_law_1493 ⟨(by show _ ≤ 601024; omega), (by show _ ≤ 7293033; omega)⟩) hW (fun r592 h591 H locs hk hW => ?_)
  obtain ⟨w, mm593⟩ := hk
  have w := w mm593
  have hm := hm.tr mm593
  have t594 := mm593.tg t590 (by decide)
  refine lv_iload hx hb d_LW_law_1496 (lv_at hl 1 rfl) ?_
  refine lv_icmp_eq (tgt := 1503) hx hb d_LW_law_1498 (by decide) (fun c595 => ?_) (fun c595 => ?_)
  · have w := w.1 c595
    refine lv_iload hx hb d_LW_law_1503 (lv_at hl 1 rfl) ?_
    refine lv_if_ne (tgt := 1520) hx hb d_LW_law_1505 (by decide) (fun c596 => ?_) (fun c596 => ?_)
    · have w := w.1 c596
      exact tb_LW_law_1520 C S (by omega) (by omega) hc_rc_23 x576 x577 x578 x579 h591 _ _ _ w hm hW (lv_sub hl [2, 3, 4, 5, 6] rfl)
    · have w := w.2 c596
      refine lv_aload_n hx hb d_LW_law_1508 rfl (lv_at hl 5 rfl) ?_
      refine lv_iconst (v := 0) hx hb d_LW_law_1509 (by decide) ?_
      obtain ⟨t602, w⟩ := w
      obtain ⟨i603, w⟩ := w
      refine hb_lald hx hb hK hW t602 (by decide) (by decide) 2 rfl i603 d_LW_law_1510 ?_
      refine lv_iload hx hb d_LW_law_1511 (lv_at hl 0 rfl) ?_
      refine lv_i2l hx hb d_LW_law_1513 rfl ?_
      refine hb_lcmp_eq (tgt := 1520) hx hb d_LW_law_1514 d_LW_law_1515 (by decide) (fun c604 => ?_) (fun c604 => ?_)
      · have w := w.1 c604
        exact tb_LW_law_1520 C S (by omega) (by omega) hc_rc_23 x576 x577 x578 x579 h591 _ _ _ w hm hW (lv_sub hl [2, 3, 4, 5, 6] rfl)
      · have w := w.2 c604
        refine lv_iconst (v := 0) hx hb d_LW_law_1518 (by decide) ?_
        exact w.elim
  · have w := w.2 c595
    refine lv_iconst (v := 0) hx hb d_LW_law_1501 (by decide) ?_
    exact w.elim
set_option maxHeartbeats 4000000 in
set_option maxRecDepth 100000 in
theorem tl_LW_law_23 {p : Program} {l : Launch} {e : Env} {s : State} {m : MethodId} {below : List Frame} {meth : Method} {c : Code} {G : zG} {b L : Nat} {xs : Nat → Int32} (C : cx_C p l s m #[Value.ref b] meth c G x code 8 ret "BigDeskLaw" lw_tbl []) (S : va_X b L xs s s.heap ∧ b < s.heap.size ∧ G.2.2 = s.heap.size) {h0 : ah_H} {xt_1529 : ah_H → Prop} (hc_xt_1529 : ∀ (cells slots : Nat), cells ≤ 601024 → slots ≤ 7293033 → ∀ (hz : ah_H) (H : Heap) (locs : List Loc) (ls : Array Slot), xt_1529 hz → ah_m h0 hz → ah_W G s.heap hz H locs → lv_has ls 8 [] → W p l e room_1 s m #[Value.ref b] below meth c H locs cells slots (lw_Z below #[Value.ref b] s) (F0 m 1529 ls [])) : ∀ (n cells slots : Nat), cells + 10 * n ≤ 601024 → slots + 60 * n ≤ 7293033 → ∀ (x26 : Nat) (x27 : Nat) (x28 : Nat) (x29 : Int32) (h30 : ah_H) (H : Heap) (locs : List Loc) (ls : Array Slot), lp_LW_law_23 xt_1529 L xs n x26 x27 x28 x29 h30 → ah_m h0 h30 → ah_W G s.heap h30 H locs → lv_has ls 8 [(0, .ref b), (1, .ref x26), (2, .ref x27), (3, .ref x28), (4, .int x29)] → W p l e room_1 s m #[Value.ref b] below meth c H locs cells slots (lw_Z below #[Value.ref b] s) (F0 m 23 ls []) := by
  obtain ⟨hx, hb, hr, hml, hown, hts, hT, hlk, hK, hX, htb, hin, hst⟩ := id C
  have hw : ∀ {w9 : Cond}, w9 ∈ zx_T → w9.before _ s = true := fun h9 => hts _ (hT _ h9)
  intro n
  induction n with
  | zero =>
    intro cells slots hcl hsl x26 x27 x28 x29 h30 H locs ls w
    exact absurd w (by intro z9; exact z9)
  | succ n ih =>
    intro cells slots hcl hsl x26 x27 x28 x29 h30 H locs ls w hm hW hl
    unfold lp_LW_law_23 at w
    refine lv_iload hx hb d_LW_law_23 (lv_at hl 4 rfl) ?_
    refine lv_aload_n hx hb d_LW_law_25 rfl (lv_at hl 0 rfl) ?_
    refine va_slen hx hb S.1 S.2.1 (by rw [S.2.2]; exact Nat.not_le.mpr S.2.1) hW.2.2 d_LW_law_26 ?_
    refine lv_iconst (v := 5) hx hb d_LW_law_27 (by decide) ?_
    refine lv_isub hx hb d_LW_law_28 ?_
    refine lv_icmp_gt (tgt := 1529) hx hb d_LW_law_29 (by decide) (fun c31 => ?_) (fun c31 => ?_)
    · have w := w.1 c31
      exact hc_xt_1529 _ _ (by omega) (by omega)  h30 _ _ _ w hm hW (lv_sub hl [] rfl)
    · have w := w.2 c31
      refine lv_aload_n hx hb d_LW_law_32 rfl (lv_at hl 0 rfl) ?_
      refine lv_iload hx hb d_LW_law_33 (lv_at hl 4 rfl) ?_
      obtain ⟨i32, w⟩ := w
      refine va_sld hx hb S.1 S.2.1 (by rw [S.2.2]; exact Nat.not_le.mpr S.2.1) hW.2.2 i32 d_LW_law_35 ?_
      refine lv_bipush (v := 31) hx hb d_LW_law_36 (by decide) ?_
      refine lv_iand hx hb d_LW_law_38 ?_
      by_cases c33 : ((xs x29.toNatClampNeg) &&& (31 : Int32)).toInt < 0 ∨ 20 < ((xs x29.toNatClampNeg) &&& (31 : Int32)).toInt
      · have w := w.1 c33
        refine lv_tableOut (tgt := 1523) hx hb d_LW_law_39 c33 (by decide) ?_
        exact tb_LW_law_1523 C S (by omega) (by omega) ih x26 x27 x28 x29 h30 _ _ _ w hm hW (lv_sub hl [0, 1, 2, 3, 4] rfl)
      · have w := w.2
        rcases (show ((xs x29.toNatClampNeg) &&& (31 : Int32)).toInt = 0 ∨ ((xs x29.toNatClampNeg) &&& (31 : Int32)).toInt = 1 ∨ ((xs x29.toNatClampNeg) &&& (31 : Int32)).toInt = 2 ∨ ((xs x29.toNatClampNeg) &&& (31 : Int32)).toInt = 3 ∨ ((xs x29.toNatClampNeg) &&& (31 : Int32)).toInt = 4 ∨ ((xs x29.toNatClampNeg) &&& (31 : Int32)).toInt = 5 ∨ ((xs x29.toNatClampNeg) &&& (31 : Int32)).toInt = 6 ∨ ((xs x29.toNatClampNeg) &&& (31 : Int32)).toInt = 7 ∨ ((xs x29.toNatClampNeg) &&& (31 : Int32)).toInt = 8 ∨ ((xs x29.toNatClampNeg) &&& (31 : Int32)).toInt = 9 ∨ ((xs x29.toNatClampNeg) &&& (31 : Int32)).toInt = 10 ∨ ((xs x29.toNatClampNeg) &&& (31 : Int32)).toInt = 11 ∨ ((xs x29.toNatClampNeg) &&& (31 : Int32)).toInt = 12 ∨ ((xs x29.toNatClampNeg) &&& (31 : Int32)).toInt = 13 ∨ ((xs x29.toNatClampNeg) &&& (31 : Int32)).toInt = 14 ∨ ((xs x29.toNatClampNeg) &&& (31 : Int32)).toInt = 15 ∨ ((xs x29.toNatClampNeg) &&& (31 : Int32)).toInt = 16 ∨ ((xs x29.toNatClampNeg) &&& (31 : Int32)).toInt = 17 ∨ ((xs x29.toNatClampNeg) &&& (31 : Int32)).toInt = 18 ∨ ((xs x29.toNatClampNeg) &&& (31 : Int32)).toInt = 19 ∨ ((xs x29.toNatClampNeg) &&& (31 : Int32)).toInt = 20 by omega) with c33a | c33a | c33a | c33a | c33a | c33a | c33a | c33a | c33a | c33a | c33a | c33a | c33a | c33a | c33a | c33a | c33a | c33a | c33a | c33a | c33a
        · have w := w.1 c33a
          refine lv_tableIn (tgt := 136) hx hb d_LW_law_39 (by omega) (by omega) (by rw [c33a]; rfl) (by decide) ?_
          exact tb_LW_law_136 C S (by omega) (by omega) ih x26 x27 x28 x29 h30 _ _ _ w hm hW (lv_sub hl [0, 1, 2, 3, 4] rfl)
        · have w := w.2.1 c33a
          refine lv_tableIn (tgt := 216) hx hb d_LW_law_39 (by omega) (by omega) (by rw [c33a]; rfl) (by decide) ?_
          exact tb_LW_law_216 C S (by omega) (by omega) ih x26 x27 x28 x29 h30 _ _ _ w hm hW (lv_sub hl [0, 1, 2, 3, 4] rfl)
        · have w := w.2.2.1 c33a
          refine lv_tableIn (tgt := 264) hx hb d_LW_law_39 (by omega) (by omega) (by rw [c33a]; rfl) (by decide) ?_
          exact tb_LW_law_264 C S (by omega) (by omega) ih x26 x27 x28 x29 h30 _ _ _ w hm hW (lv_sub hl [0, 1, 2, 3, 4] rfl)
        · have w := w.2.2.2.1 c33a
          refine lv_tableIn (tgt := 324) hx hb d_LW_law_39 (by omega) (by omega) (by rw [c33a]; rfl) (by decide) ?_
          exact tb_LW_law_324 C S (by omega) (by omega) ih x26 x27 x28 x29 h30 _ _ _ w hm hW (lv_sub hl [0, 1, 2, 3, 4] rfl)
        · have w := w.2.2.2.2.1 c33a
          refine lv_tableIn (tgt := 384) hx hb d_LW_law_39 (by omega) (by omega) (by rw [c33a]; rfl) (by decide) ?_
          exact tb_LW_law_384 C S (by omega) (by omega) ih x26 x27 x28 x29 h30 _ _ _ w hm hW (lv_sub hl [0, 1, 2, 3, 4] rfl)
        · have w := w.2.2.2.2.2.1 c33a
          refine lv_tableIn (tgt := 444) hx hb d_LW_law_39 (by omega) (by omega) (by rw [c33a]; rfl) (by decide) ?_
          exact tb_LW_law_444 C S (by omega) (by omega) ih x26 x27 x28 x29 h30 _ _ _ w hm hW (lv_sub hl [0, 1, 2, 3, 4] rfl)
        · have w := w.2.2.2.2.2.2.1 c33a
          refine lv_tableIn (tgt := 536) hx hb d_LW_law_39 (by omega) (by omega) (by rw [c33a]; rfl) (by decide) ?_
          exact tb_LW_law_536 C S (by omega) (by omega) ih x26 x27 x28 x29 h30 _ _ _ w hm hW (lv_sub hl [0, 1, 2, 3, 4] rfl)
        · have w := w.2.2.2.2.2.2.2.1 c33a
          refine lv_tableIn (tgt := 596) hx hb d_LW_law_39 (by omega) (by omega) (by rw [c33a]; rfl) (by decide) ?_
          exact tb_LW_law_596 C S (by omega) (by omega) ih x26 x27 x28 x29 h30 _ _ _ w hm hW (lv_sub hl [0, 1, 2, 3, 4] rfl)
        · have w := w.2.2.2.2.2.2.2.2.1 c33a
          refine lv_tableIn (tgt := 656) hx hb d_LW_law_39 (by omega) (by omega) (by rw [c33a]; rfl) (by decide) ?_
          exact tb_LW_law_656 C S (by omega) (by omega) ih x26 x27 x28 x29 h30 _ _ _ w hm hW (lv_sub hl [0, 1, 2, 3, 4] rfl)
        · have w := w.2.2.2.2.2.2.2.2.2.1 c33a
          refine lv_tableIn (tgt := 728) hx hb d_LW_law_39 (by omega) (by omega) (by rw [c33a]; rfl) (by decide) ?_
          exact tb_LW_law_728 C S (by omega) (by omega) ih x26 x27 x28 x29 h30 _ _ _ w hm hW (lv_sub hl [0, 1, 2, 3, 4] rfl)
        · have w := w.2.2.2.2.2.2.2.2.2.2.1 c33a
          refine lv_tableIn (tgt := 788) hx hb d_LW_law_39 (by omega) (by omega) (by rw [c33a]; rfl) (by decide) ?_
          exact tb_LW_law_788 C S (by omega) (by omega) ih x26 x27 x28 x29 h30 _ _ _ w hm hW (lv_sub hl [0, 1, 2, 3, 4] rfl)
        · have w := w.2.2.2.2.2.2.2.2.2.2.2.1 c33a
          refine lv_tableIn (tgt := 836) hx hb d_LW_law_39 (by omega) (by omega) (by rw [c33a]; rfl) (by decide) ?_
          exact tb_LW_law_836 C S (by omega) (by omega) ih x26 x27 x28 x29 h30 _ _ _ w hm hW (lv_sub hl [0, 1, 2, 3, 4] rfl)
        · have w := w.2.2.2.2.2.2.2.2.2.2.2.2.1 c33a
          refine lv_tableIn (tgt := 904) hx hb d_LW_law_39 (by omega) (by omega) (by rw [c33a]; rfl) (by decide) ?_
          exact tb_LW_law_904 C S (by omega) (by omega) ih x26 x27 x28 x29 h30 _ _ _ w hm hW (lv_sub hl [0, 1, 2, 3, 4] rfl)
        · have w := w.2.2.2.2.2.2.2.2.2.2.2.2.2.1 c33a
          refine lv_tableIn (tgt := 1003) hx hb d_LW_law_39 (by omega) (by omega) (by rw [c33a]; rfl) (by decide) ?_
          exact tb_LW_law_1003 C S (by omega) (by omega) ih x26 x27 x28 x29 h30 _ _ _ w hm hW (lv_sub hl [0, 1, 2, 3, 4] rfl)
        · have w := w.2.2.2.2.2.2.2.2.2.2.2.2.2.2.1 c33a
          refine lv_tableIn (tgt := 1058) hx hb d_LW_law_39 (by omega) (by omega) (by rw [c33a]; rfl) (by decide) ?_
          exact tb_LW_law_1058 C S (by omega) (by omega) ih x26 x27 x28 x29 h30 _ _ _ w hm hW (lv_sub hl [0, 1, 2, 3, 4] rfl)
        · have w := w.2.2.2.2.2.2.2.2.2.2.2.2.2.2.2.1 c33a
          refine lv_tableIn (tgt := 1125) hx hb d_LW_law_39 (by omega) (by omega) (by rw [c33a]; rfl) (by decide) ?_
          exact tb_LW_law_1125 C S (by omega) (by omega) ih x26 x27 x28 x29 h30 _ _ _ w hm hW (lv_sub hl [0, 1, 2, 3, 4] rfl)
        · have w := w.2.2.2.2.2.2.2.2.2.2.2.2.2.2.2.2.1 c33a
          refine lv_tableIn (tgt := 1193) hx hb d_LW_law_39 (by omega) (by omega) (by rw [c33a]; rfl) (by decide) ?_
          exact tb_LW_law_1193 C S (by omega) (by omega) ih x26 x27 x28 x29 h30 _ _ _ w hm hW (lv_sub hl [0, 1, 2, 3, 4] rfl)
        · have w := w.2.2.2.2.2.2.2.2.2.2.2.2.2.2.2.2.2.1 c33a
          refine lv_tableIn (tgt := 1293) hx hb d_LW_law_39 (by omega) (by omega) (by rw [c33a]; rfl) (by decide) ?_
          exact tb_LW_law_1293 C S (by omega) (by omega) ih x26 x27 x28 x29 h30 _ _ _ w hm hW (lv_sub hl [0, 1, 2, 3, 4] rfl)
        · have w := w.2.2.2.2.2.2.2.2.2.2.2.2.2.2.2.2.2.2.1 c33a
          refine lv_tableIn (tgt := 1356) hx hb d_LW_law_39 (by omega) (by omega) (by rw [c33a]; rfl) (by decide) ?_
          exact tb_LW_law_1356 C S (by omega) (by omega) ih x26 x27 x28 x29 h30 _ _ _ w hm hW (lv_sub hl [0, 1, 2, 3, 4] rfl)
        · have w := w.2.2.2.2.2.2.2.2.2.2.2.2.2.2.2.2.2.2.2.1 c33a
          refine lv_tableIn (tgt := 1412) hx hb d_LW_law_39 (by omega) (by omega) (by rw [c33a]; rfl) (by decide) ?_
          exact tb_LW_law_1412 C S (by omega) (by omega) ih x26 x27 x28 x29 h30 _ _ _ w hm hW (lv_sub hl [0, 1, 2, 3, 4] rfl)
        · have w := w.2.2.2.2.2.2.2.2.2.2.2.2.2.2.2.2.2.2.2.2 c33a
          refine lv_tableIn (tgt := 1467) hx hb d_LW_law_39 (by omega) (by omega) (by rw [c33a]; rfl) (by decide) ?_
          exact tb_LW_law_1467 C S (by omega) (by omega) ih x26 x27 x28 x29 h30 _ _ _ w hm hW (lv_sub hl [0, 1, 2, 3, 4] rfl)
set_option maxHeartbeats 4000000 in
set_option maxRecDepth 100000 in
theorem law_walk {p : Program} {l : Launch} {e : Env} {s : State} {m : MethodId} {below : List Frame} {meth : Method} {c : Code} {G : zG} {b L : Nat} {xs : Nat → Int32} (C : cx_C p l s m #[Value.ref b] meth c G x code 8 ret "BigDeskLaw" lw_tbl []) (S : va_X b L xs s s.heap ∧ b < s.heap.size ∧ G.2.2 = s.heap.size) (h0 : ah_H) (w : w_LW_law L xs h0) (hW : ah_W G s.heap h0 s.heap []) : W p l e room_1 s m #[Value.ref b] below meth c s.heap [] 0 0 (lw_Z below #[Value.ref b] s) (entryFrame m ([Value.ref b] : List Value).toArray 8) := by
  unfold w_LW_law at w
  obtain ⟨hx, hb, hr, hml, hown, hts, hT, hlk, hK, hX, htb, hin, hst⟩ := id C
  have hw : ∀ {w9 : Cond}, w9 ∈ zx_T → w9.before _ s = true := fun h9 => hts _ (hT _ h9)
  have hm : ah_m h0 h0 := ah_m.rf
  have hl := lv_entry ([.ref b]) (n := 8) (Nat.le_of_ble_eq_true rfl)
  rw [lg_entry_eq]
  generalize (lg_sl ([.ref b]) ++ List.replicate (8 - (lg_sl ([.ref b])).length) Slot.unset).toArray = ls at hl ⊢
  have hl : lv_has ls 8 [(0, .ref b)] := hl
  refine hb_new (ci := 3) (C := "BigDesk") (T := T_BD) (N := 9) hx hb hts (fun w9 h9 => hT w9 (u_BD w9 h9)) t_BD o_BD hown (hw wd_18) (hw wd_19) (hw wd_1) hK hW rfl (by decide) f_BD (by show _ ≤ 601024; omega) (by show _ ≤ 7293033; omega) d_LW_law_0 (fun q1 H z2 hW => ?_)
  obtain ⟨h3, eh3⟩ : ∃ z9, z9 = ah_new h0 q1 4 0 := ⟨_, rfl⟩
  rw [← eh3] at hW
  have w := w q1 z2 h3 eh3
  have mm4 : ah_m h0 h3 := (ah_m.rf.nw z2).eq eh3
  have hm := hm.tr mm4
  have t5 : ah_T h3 q1 = 4 := by rw [eh3]; exact va_up_self _ _ _
  refine lv_dup hx hb d_LW_law_3 rfl ?_
  refine hb_callv (va_runI (As := []) (rest := [.ref q1]) ⟨hx, hb, hml, hown, hts⟩ (m_BD_init G q1 h3 hst w) (cwI 0 hts (zx_gB hT wd_22) rfl rfl rfl (hw wd_1) (hw wd_20) (hw wd_21) rfl (by decide +kernel) ⟨Nat.le_of_ble_eq_true rfl, Nat.le_of_ble_eq_true rfl⟩) (hb_preS hK hX hW) rfl rfl hl.1 rfl (lv_room (Nat.le_of_ble_eq_true rfl)) d_LW_law_4 ⟨(by show _ ≤ 601024; omega), (by show _ ≤ 7293033; omega)⟩) hW (fun h6 H locs hk hW => ?_)
  obtain ⟨w, mm7⟩ := hk
  have w := w mm7
  have hm := hm.tr mm7
  have t8 := mm7.tg t5 (by decide)
  refine lv_astore_n (lv' := [(1, .ref q1), (0, .ref b)]) hx hb d_LW_law_7 rfl hl (by decide) rfl (fun ls hl => ?_)
  refine hb_new (ci := 4) (C := "BigDeskModel") (T := T_MO) (N := 8) hx hb hts (fun w9 h9 => hT w9 (u_MO w9 h9)) t_MO o_MO hown (hw wd_627) (hw wd_628) (hw wd_5) hK hW rfl (by decide) f_MO (by show _ ≤ 601024; omega) (by show _ ≤ 7293033; omega) d_LW_law_8 (fun q9 H z10 hW => ?_)
  obtain ⟨h11, eh11⟩ : ∃ z9, z9 = ah_new h6 q9 5 0 := ⟨_, rfl⟩
  rw [← eh11] at hW
  have w := w q9 z10 h11 eh11
  have mm12 : ah_m h6 h11 := (ah_m.rf.nw z10).eq eh11
  have hm := hm.tr mm12
  have t13 := mm12.tg t8 (by decide)
  have t14 : ah_T h11 q9 = 5 := by rw [eh11]; exact va_up_self _ _ _
  refine lv_dup hx hb d_LW_law_11 rfl ?_
  refine hb_callv (va_runI (As := []) (rest := [.ref q9]) ⟨hx, hb, hml, hown, hts⟩ (m_MO_init G q9 h11 hst w) (cwI 0 hts (zx_gB hT wd_631) rfl rfl rfl (hw wd_5) (hw wd_629) (hw wd_630) rfl (by decide +kernel) ⟨Nat.le_of_ble_eq_true rfl, Nat.le_of_ble_eq_true rfl⟩) (hb_preS hK hX hW) rfl rfl hl.1 rfl (lv_room (Nat.le_of_ble_eq_true rfl)) d_LW_law_12 ⟨(by show _ ≤ 601024; omega), (by show _ ≤ 7293033; omega)⟩) hW (fun h15 H locs hk hW => ?_)
  obtain ⟨w, mm16⟩ := hk
  have w := w mm16
  have hm := hm.tr mm16
  have t17 := mm16.tg t13 (by decide)
  have t18 := mm16.tg t14 (by decide)
  refine lv_astore_n (lv' := [(2, .ref q9), (1, .ref q1), (0, .ref b)]) hx hb d_LW_law_15 rfl hl (by decide) rfl (fun ls hl => ?_)
  refine lv_iconst (v := 1) hx hb d_LW_law_16 (by decide) ?_
  refine hb_newa (atype := .long) (t := 110) (N := 1) hx hb (hw wd_55) hK hW 2 rfl (by decide) (by decide) (by decide) (ah_nwJ _ _) (by show _ ≤ 601024; omega) (by show _ ≤ 7293033; omega) d_LW_law_17 (fun q19 H z20 hW => ?_)
  obtain ⟨h21, eh21⟩ : ∃ z9, z9 = ah_new h15 q19 110 1 := ⟨_, rfl⟩
  rw [← eh21] at hW
  have w := w q19 z20 h21 eh21
  have mm22 : ah_m h15 h21 := (ah_m.rf.nw z20).eq eh21
  have hm := hm.tr mm22
  have t23 := mm22.tg t17 (by decide)
  have t24 := mm22.tg t18 (by decide)
  have t25 : ah_T h21 q19 = 110 := by rw [eh21]; exact va_up_self _ _ _
  refine lv_astore_n (lv' := [(3, .ref q19), (2, .ref q9), (1, .ref q1), (0, .ref b)]) hx hb d_LW_law_19 rfl hl (by decide) rfl (fun ls hl => ?_)
  refine lv_iconst (v := 0) hx hb d_LW_law_20 (by decide) ?_
  refine lv_istore (lv' := [(4, .int (0 : Int32)), (3, .ref q19), (2, .ref q9), (1, .ref q1), (0, .ref b)]) hx hb d_LW_law_21 hl (by decide) rfl (fun ls hl => ?_)
  obtain ⟨k606, hk9, w⟩ := w
  refine tl_LW_law_23 C S (fun cells slots hcl hsl  h605 H locs ls w hm hW hl => ?_) k606 _ _ (by omega) (by omega) q1 q9 q19 (0 : Int32) h21 _ _ _ w hm hW (lv_sub hl [4, 3, 2, 1, 0] rfl)
  · refine lv_iconst (v := 1) hx hb d_LW_law_1529 (by decide) ?_
    refine va_forget (fun q9 h9 => by have z9 := hW.2.2.2.2 q9 h9; rw [S.2.2] at z9; exact z9) ?_
    refine W.widen (k := 601024) (n := 7293033) (by omega) (by omega) ?_
    exact lw_ret hx hb hr hlk d_LW_law_1530

set_option maxRecDepth 20000 in
theorem ggL_undecided_L_decided : GoodIn wsL_undecided wsL_decided := goodIn_r _ [4] (by decide +kernel) (by decide +kernel)
set_option maxRecDepth 20000 in
theorem gL_undecided_L_decided : GoodIn wsL_undecided (va_wsS RL 8 yL_decided wsL_decided) := goodIn_app (goodIn_of _ (by decide +kernel)) ggL_undecided_L_decided
set_option maxRecDepth 20000 in
theorem ggL_those_L_decided : GoodIn wsL_those wsL_decided := goodIn_r _ [4] (by decide +kernel) (by decide +kernel)
set_option maxRecDepth 20000 in
theorem gL_those_L_decided : GoodIn wsL_those (va_wsS RL 8 yL_decided wsL_decided) := goodIn_app (goodIn_of _ (by decide +kernel)) ggL_those_L_decided
set_option maxRecDepth 20000 in
theorem ggL_prime_L_rows : GoodIn wsL_prime wsL_rows := goodIn_r _ [4] (by decide +kernel) (by decide +kernel)
set_option maxRecDepth 20000 in
theorem gL_prime_L_rows : GoodIn wsL_prime (va_wsS RL 14 yL_rows wsL_rows) := goodIn_app (goodIn_of _ (by decide +kernel)) ggL_prime_L_rows
set_option maxRecDepth 20000 in
theorem ggL_primes_L_those : GoodIn wsL_primes wsL_those := goodIn_r _ [4, 5, 6, 3, 7] (by decide +kernel) (by decide +kernel)
set_option maxRecDepth 20000 in
theorem gL_primes_L_those : GoodIn wsL_primes (va_wsS RL 18 yL_those wsL_those) := goodIn_app (goodIn_of _ (by decide +kernel)) ggL_primes_L_those
set_option maxRecDepth 20000 in
theorem ggL_primes_L_prime : GoodIn wsL_primes wsL_prime := goodIn_r _ [10, 11, 12, 3, 13] (by decide +kernel) (by decide +kernel)
set_option maxRecDepth 20000 in
theorem gL_primes_L_prime : GoodIn wsL_primes (va_wsS RL 22 yL_prime wsL_prime) := goodIn_app (goodIn_of _ (by decide +kernel)) ggL_primes_L_prime
set_option maxRecDepth 20000 in
theorem ggL_cover_L_those : GoodIn wsL_cover wsL_those := goodIn_r _ [4, 5, 6, 3, 7] (by decide +kernel) (by decide +kernel)
set_option maxRecDepth 20000 in
theorem gL_cover_L_those : GoodIn wsL_cover (va_wsS RL 18 yL_those wsL_those) := goodIn_app (goodIn_of _ (by decide +kernel)) ggL_cover_L_those
set_option maxRecDepth 20000 in
theorem ggL_cover_L_prime : GoodIn wsL_cover wsL_prime := goodIn_r _ [10, 11, 12, 3, 13] (by decide +kernel) (by decide +kernel)
set_option maxRecDepth 20000 in
theorem gL_cover_L_prime : GoodIn wsL_cover (va_wsS RL 22 yL_prime wsL_prime) := goodIn_app (goodIn_of _ (by decide +kernel)) ggL_cover_L_prime
set_option maxRecDepth 20000 in
theorem ggL_cover_L_rows : GoodIn wsL_cover wsL_rows := goodIn_r _ [13] (by decide +kernel) (by decide +kernel)
set_option maxRecDepth 20000 in
theorem gL_cover_L_rows : GoodIn wsL_cover (va_wsS RL 14 yL_rows wsL_rows) := goodIn_app (goodIn_of _ (by decide +kernel)) ggL_cover_L_rows

import java.util.Arrays;

/** Promise 16: token; and MATCHES, GREEDY, LAZY, the fewest bits. */
public final class ParseTest {
    public static void main(String[] args) {
        longest();
        leastLength();
        greedy();
        lazy();
        fewest();
        spans();
        everyDistance();
        tokens();
        tokenEdges();
        lasting();
        Check.end("ParseTest");
    }

    /** The parse of a text, as lengths, each with "@" and its distance if it is a match. */
    private static String parse(PackingHouse x) {
        StringBuilder all = new StringBuilder();
        int place = 0;
        for (int i = 0; i < x.token(-1, 0); i++) {
            Check.due("place of " + i, x.token(i, 2), place);
            place += x.token(i, 0);
            all.append(i > 0 ? " " : "").append(x.token(i, 0));
            all.append(x.token(i, 1) > 0 ? "@" + x.token(i, 1) : "");
        }
        return all.toString();
    }

    private static void parses(String what, int kind, int level, byte[] text, String want) {
        PackingHouse x = Check.house(text);
        Check.due(what + ": pack", x.pack(kind, level), 1);
        Check.due(what, parse(x), want);
    }

    private static void parses(String what, int level, String text, String want) {
        parses(what, 3, level, Check.octets(text), want);
    }

    private static String ones(int many) {
        return "1 ".repeat(many);
    }

    private static void longest() {
        Check.says("The LONGEST match at a place of a text, from a least length to a most one, with distances up "
                + "to a reach: octets from that place on that are like those from a place less by the distance on "
                + "(which may run into each other)");
        parses("into each other", 1, "aaaaaaa", "1 6@1");
        parses("into each other by 2", 1, "abababab", "1 1 6@2");
        parses("not into each other", 1, "abcabc", "1 1 1 3@3");
        parses("258", 3, 1, Check.times('a', 259), "1 258@1");
        parses("258 at most", 3, 1, Check.times('a', 260), "1 258@1 1");
        parses("258, and two are none", 3, 1, Check.times('a', 261), "1 258@1 1 1");
        parses("258 and 3", 3, 1, Check.times('a', 262), "1 258@1 3@1");
        parses("64 at most", 8, 0, Check.times('a', 67), "1 64@1 1 1");
        parses("64 and 4", 8, 0, Check.times('a', 69), "1 64@1 4@1");
        parses("FAST has no most", 6, 0, Check.times('a', 6000), "1 5994@1 1 1 1 1 1");
        byte[] far = Check.octets("xyz", Arrays.copyOfRange(Forms.pairs(6200), 200, 200 + 5994), "xyz");
        PackingHouse x = Check.house(far);
        x.pack(3, 1);
        Check.due("as far as a TRAY goes", x.token(x.token(-1, 0) - 1, 1), 5997);
        Check.due("three", x.token(x.token(-1, 0) - 1, 0), 3);
        Check.says("the greatest length, of these the least distance.");
        parses("the greatest length", 1, "abcdXabcYabcd", "1 1 1 1 1 3@5 1 4@9");
        parses("the least distance", 1, "abcXabcYabcZ", "1 1 1 1 3@4 1 3@4 1");
        parses("the least distance of three", 1, "abcdXabcdYabcdZ", "1 1 1 1 1 4@5 1 4@5 1");
    }

    private static void leastLength() {
        Check.says("If there is none of the least length, there is no match.");
        parses("two of BLOCKS", 1, "abXab", "1 1 1 1 1");
        parses("three of BLOCKS", 1, "abcXabc", "1 1 1 1 3@4");
        parses("two of BLOCKS, LAZY", 2, "abXab", "1 1 1 1 1");
        parses("three of BLOCKS, LAZY", 2, "abcXabc", "1 1 1 1 3@4");
        parses("three of COPIES", 8, 0, Check.octets("abcXabc"), "1 1 1 1 1 1 1");
        parses("four of COPIES", 8, 0, Check.octets("abcdXabcd"), "1 1 1 1 1 4@5");
        parses("three of FAST", 6, 0, Check.octets("abcXabc0123456789"), ones(17).trim());
        parses("four of FAST", 6, 0, Check.octets("abcdXabcd0123456789"), ones(5) + "4@5 " + ones(10).trim());
        parses("none at all", 1, "", "");
        parses("one", 1, "a", "1");
        parses("three alike are too few", 1, "aaa", "1 1 1");
        parses("four alike", 1, "aaaa", "1 3@1");
    }

    private static void greedy() {
        Check.says("GREEDY: from the left, the LONGEST one, where there is one, else a literal.");
        parses("a longer one comes later", 1, "abcbcdefabcdef", ones(8) + "3@8 3@6");
        parses("by COPIES", 8, 0, Check.octets("abcdbcdefgabcdefg"), ones(10) + "4@10 1 1 1");
    }

    private static void lazy() {
        Check.says("LAZY: likewise, but a literal also where there is a longer one at the next place.");
        parses("3 and then 5", 2, "abcbcdefabcdef", ones(9) + "5@6");
        // at 'abc' there is a match of 3, at 'bcd' one of 3 that is not longer
        parses("3 and then 3", 2, "abc-bcd-abcdX", ones(8) + "3@8 1 1");
        parses("3 and then 4", 2, "abc-bcde-abcdeX", ones(9) + "1 4@6 1");
        // 3, then 4, then 5: a literal twice
        parses("3, 4, 5", 2, "abc-bcde-cdefg-abcdefgX", ones(9) + "3@4 1 1 1 1 1 5@8 1");
        parses("at the last place", 2, "abcabc", "1 1 1 3@3");
        parses("alike", 3, 2, Check.times('a', 259), "1 258@1");
        parses("alike, and one", 3, 2, Check.times('a', 260), "1 258@1 1");
        parses("none", 2, "", "");
    }

    private static void fewest() {
        Check.says("3: one FIXED block with the fewest bits of all ways to write the text");
        parses("a match is cheaper than three literals", 3, "abcabc", "1 1 1 3@3");
        // two literals of 9 bits and one of 8 or a match of 7 + 5 bits
        parses("alike", 3, "aaaaaaa", "1 6@1");
        Check.says("of these, from the left, a literal where one is possible, else the least length, with the "
                + "least distance for it.");
        // a literal and 258 are as many bits as 258 and a literal
        parses("a literal first", 3, 3, Check.times('a', 260), "1 1 258@1");
        parses("two literals first", 3, 3, Check.times('a', 261), "1 1 1 258@1");
        // 258 and 3 are as many bits as 3 and 258
        parses("the least length first", 3, 3, Check.times('a', 262), "1 3@1 258@1");
        // 263 alike: 4 and 258, 5 and 257 are dearer
        parses("the least length of many", 3, 3, Check.times('a', 263), "1 4@1 258@1");
        parses("the least distance", 3, "abcXabcYabcZ", "1 1 1 1 3@4 1 3@4 1");
        // the longest match is 4 at 9, but 3 has a distance of 4: its bits are fewer by 1, the literal's 8 are more
        parses("the length before the distance", 3, "abcdXabcYabcd", "1 1 1 1 1 3@5 1 4@9");
        parses("none", 3, "", "");
        literalBits();
        for (int seed = 0; seed < 30; seed++) {
            byte[] text = Forms.filled(Forms.NONE, seed % 3 + 1, 40 + 9 * seed, seed);
            PackingHouse x = Check.house(text);
            x.pack(3, 3);
            Check.due("all ways, " + seed, parse(x), cheapest(text));
            Check.due("their bits, " + seed, x.bits(), 3 + 7 + costs(text)[0]);
        }
    }

    /**
     * Four octets from 4200 before are a match of 7 + 5 + 11 bits; the last three of them, from near by, are one of
     * 7 + 5 + 3 bits (17 .. 32 before), or of one bit less or more: with a literal of 8 or 9 bits that is as many, or not.
     */
    private static void literalBits() {
        int[][] want = {{143, 16, 1}, {143, 17, 1}, {143, 32, 1}, {143, 33, 4}, {144, 16, 1}, {144, 17, 4}, {144, 13, 1},
            {255, 16, 1}, {255, 17, 4}, {0, 32, 1}, {0, 33, 4}};
        for (int[] some : want) {
            byte[] others = Arrays.copyOfRange(Forms.pairs(6000), 1024, 1024 + 4200 - 4 - some[1] + 1);
            byte[] few = Arrays.copyOfRange(Forms.pairs(6000), 512, 512 + some[1] - 4);
            byte[] four = Check.octets(some[0], 7, 77, 200);
            byte[] three = Arrays.copyOfRange(four, 1, 4);
            PackingHouse x = Check.house(Check.octets(four, others, three, few, four));
            x.pack(3, 3);
            int many = x.token(-1, 0);
            int last = x.token(many - 1, 0);
            Check.due("octet " + some[0] + ", " + some[1] + " before", last == 4 ? 4 : x.token(many - 2, 0), some[2]);
            Check.due("the distance of the last", x.token(many - 1, 1), some[2] == 4 ? 4200 : some[1]);
        }
    }

    private static int matchBits(int length, int distance) {
        int more = length < 11 || length == 258 ? 0 : 29 - Integer.numberOfLeadingZeros(length - 3);
        int symbol = length == 258 ? 285 : length < 11 ? 254 + length
                : 257 + 4 * more + 4 + (length - 3 >> more) - 4;
        int gapMore = distance < 5 ? 0 : 30 - Integer.numberOfLeadingZeros(distance - 1);
        return (symbol < 280 ? 7 : 8) + more + 5 + gapMore;
    }

    private static int alike(byte[] text, int p, int distance) {
        int n = 0;
        while (p + n < text.length && n < 258 && text[p + n] == text[p + n - distance]) {
            n++;
        }
        return n;
    }

    private static int[] costs(byte[] text) {
        int[] costs = new int[text.length + 1];
        for (int p = text.length - 1; p >= 0; p--) {
            costs[p] = ((text[p] & 255) < 144 ? 8 : 9) + costs[p + 1];
            for (int d = 1; d <= p; d++) {
                for (int n = 3; n <= alike(text, p, d); n++) {
                    costs[p] = Math.min(costs[p], matchBits(n, d) + costs[p + n]);
                }
            }
        }
        return costs;
    }

    /** All lengths with all distances at all places. */
    private static String cheapest(byte[] text) {
        int[] costs = costs(text);
        StringBuilder all = new StringBuilder();
        for (int p = 0; p < text.length; ) {
            String best = "";
            int step = 0;
            if (costs[p] == ((text[p] & 255) < 144 ? 8 : 9) + costs[p + 1]) {
                best = "1";
                step = 1;
            }
            for (int n = 3; step == 0; n++) {
                for (int d = 1; d <= p && step == 0; d++) {
                    if (alike(text, p, d) >= n && costs[p] == matchBits(n, d) + costs[p + n]) {
                        best = n + "@" + d;
                        step = n;
                    }
                }
            }
            all.append(p > 0 ? " " : "").append(best);
            p += step;
        }
        return all.toString();
    }

    private static void spans() {
        Check.says("GREEDY over the whole text, but that no match goes beyond its block (the LONGEST one is cut "
                + "there; below 3 it is none).");
        parses("2000 alike", 3, 4, Check.times('q', 2000), "1 " + "258@1 ".repeat(7) + "193@1");
        parses("2001 alike", 3, 4, Check.times('q', 2001), "1 " + "258@1 ".repeat(7) + "193@1 1");
        parses("2003 alike", 3, 4, Check.times('q', 2003), "1 " + "258@1 ".repeat(7) + "193@1 3@1");
        parses("4000 alike", 3, 4, Check.times('q', 4000), "1 " + "258@1 ".repeat(7) + "193@1 " + "258@1 ".repeat(7)
                + "194@1");
        parses("no block by level 1", 3, 1, Check.times('q', 2003), "1 " + "258@1 ".repeat(7) + "196@1");
        parses("no block by level 2", 3, 2, Check.times('q', 2003), "1 " + "258@1 ".repeat(7) + "196@1");
        parses("no block by COPIES", 8, 0, Check.times('q', 2003), "1 " + "64@1 ".repeat(31) + "18@1");
        // 'vwxyz' with its end 3, 2, 1 octets before the end of a block
        for (int left = 1; left <= 5; left++) {
            byte[] text = Check.octets("vwxyz", Check.times('q', 2000 - 5 - left), "vwxyz", "-");
            PackingHouse x = Check.house(text);
            x.pack(3, 4);
            String got = parse(x);
            String want = left == 5 ? "5@1995 1" : left == 4 ? "4@1996 1 1" : left == 3 ? "3@1997 1 1 1"
                    : left == 2 ? "1 1 3@1998 1" : "1 4@1999 1";
            Check.due(left + " before the end of a block", got.substring(got.length() - want.length()), want);
            Check.holds("a token ends there", got.charAt(got.length() - want.length() - 1) == ' ');
        }
    }

    /** The LONGEST match, looked for at each distance: its length and distance. */
    private static int[] longest(byte[] text, int p, int least, int most) {
        int[] best = {0, 0};
        for (int d = 1; d <= p; d++) {
            int n = 0;
            while (p + n < text.length && n < most && text[p + n] == text[p + n - d]) {
                n++;
            }
            best = n >= least && n > best[0] ? new int[] {n, d} : best;
        }
        return best;
    }

    private static String naive(byte[] text, int kind, int level) {
        int least = kind == 3 ? 3 : 4;
        int most = kind == 3 ? 258 : kind == 8 ? 64 : 6000;
        StringBuilder all = new StringBuilder();
        for (int p = 0; p < text.length; ) {
            int[] match = longest(text, p, least, most);
            int n = match[0];
            if (level == 4) {
                n = Math.min(n, 2000 - p % 2000);
            } else if (kind == 6) {
                n = p > text.length - 12 ? 0 : Math.min(n, text.length - 5 - p);
            } else if (level == 2 && n > 0 && longest(text, p + 1, least, most)[0] > n) {
                n = 0;
            }
            n = n < least ? 1 : n;
            all.append(p > 0 ? " " : "").append(n > 1 ? n + "@" + match[1] : "1");
            p += n;
        }
        return all.toString();
    }

    private static void everyDistance() {
        Check.says("MATCHES. The LONGEST match at a place of a text");
        for (int seed = 0; seed < 40; seed++) {
            byte[] text = Forms.filled(Forms.filled(Forms.NONE, seed % 4, 100 + seed, seed), (seed + 1) % 4, 200, seed + 99);
            for (int kind : new int[] {3, 6, 8}) {
                for (int level = kind == 3 ? 1 : 0; level <= (kind == 3 ? 4 : 0); level++) {
                    if (level != 3) {
                        parses("fill " + seed + " by " + kind + ", " + level, kind, level, text, naive(text, kind, level));
                    }
                }
            }
        }
        byte[] text = Forms.filled(Forms.filled(Forms.NONE, 2, 3000, 5), 1, 1500, 6);
        parses("over blocks", 3, 4, text, naive(text, 3, 4));
    }

    private static void tokens() {
        Check.says("token i, from 0 on: what = 0 its length (1: a literal), 1 its distance (0), 2 the place in "
                + "the text.");
        PackingHouse x = Check.house(Check.octets("abcdeabcdefgabcdefg"));
        Check.due("pack", x.pack(3, 1), 1);
        int[][] want = {{1, 0, 0}, {1, 0, 1}, {1, 0, 2}, {1, 0, 3}, {1, 0, 4}, {5, 5, 5}, {1, 0, 10}, {1, 0, 11},
            {7, 7, 12}};
        for (int i = 0; i < want.length; i++) {
            for (int what = 0; what < 3; what++) {
                Check.due("token " + i + ", " + what, x.token(i, what), want[i][what]);
            }
        }
        PackingHouse y = Check.house(Forms.pairs(6000));
        y.pack(3, 2);
        Check.due("6000 literals", y.token(-1, 0), 6000);
        Check.due("the last one", y.token(5999, 2), 5999);
        Check.due("no further one", y.token(6000, 2), -1);
    }

    private static void tokenEdges() {
        Check.says("With i = -1 (any what): how many there are, 0 after others. -1 there is none, -2 no such "
                + "what.");
        PackingHouse x = Check.house(Check.octets("abcdeabcde"));
        x.pack(3, 1);
        for (int what : new int[] {0, 1, 2, 3, -1, 99, Integer.MIN_VALUE, Integer.MAX_VALUE}) {
            Check.due("token(-1, " + what + ")", x.token(-1, what), 6);
        }
        for (int i : new int[] {6, -2, Integer.MIN_VALUE, Integer.MAX_VALUE}) {
            Check.due("token(" + i + ", 0)", x.token(i, 0), -1);
            Check.due("token(" + i + ", 3): -1 comes first", x.token(i, 3), -1);
        }
        for (int what : new int[] {3, -1, Integer.MIN_VALUE, Integer.MAX_VALUE}) {
            Check.due("token(5, " + what + ")", x.token(5, what), -2);
        }
        x.cut(0);
        x.pack(3, 1);
        Check.due("of an empty text", x.token(-1, 0), 0);
        Check.due("there is none", x.token(0, 0), -1);
    }

    private static void lasting() {
        Check.says("The parse of the last pack() that was not refused, over the whole text, if it was by a KIND "
                + "3, 4, 5 with a level above 0, or by 6, 7, 8");
        for (int kind = 1; kind <= 10; kind++) {
            for (int level = 0; level <= (kind >= 3 && kind <= 5 ? 4 : 0); level++) {
                PackingHouse x = Check.house(Check.times('a', 30));
                x.pack(6, 0);
                Check.due("before", x.token(-1, 0), 7);
                x.pack(kind, level);
                boolean parsed = kind >= 3 && kind <= 5 && level > 0 || kind >= 6 && kind <= 8;
                int want = !parsed ? 0 : kind == 6 || kind == 7 ? 7 : 2;
                Check.due("after " + kind + ", " + level, x.token(-1, 0), want);
            }
        }
        PackingHouse x = Check.house(Check.times('a', 30));
        x.pack(3, 1);
        x.pack(3, 5);
        x.pack(0, 0);
        Check.due("it stays when refused", x.token(-1, 0), 2);
        x.open(3);
        Check.due("it stays in open()", x.token(-1, 0), 2);
        x.cut(5);
        Check.due("it stays when the TRAY does not", x.token(1, 0), 29);
        x.name('n', 1);
        x.entry(1, 0, 0);
        x.write(13, 2);
        Check.due("it stays in write()", x.token(-1, 0), 2);
        x.delta(1, 1);
        Check.due("it stays in delta()", x.token(1, 0), 29);
        Check.useNumbers(x);
        Check.due("none after ODDS", x.token(-1, 0), 0);
        x.drop(1);
        x.pack(3, 4);
        x.feed(0x616263, 3);
        Check.due("no number is free", x.pack(6, 0), -4);
        Check.due("it stays", x.token(-1, 0), 2);
        byte[] whole = Check.octets("abc", Check.times('q', 1997), "abc");
        Check.says("over the whole text");
        PackingHouse y = Check.house(whole);
        y.pack(5, 4);
        Check.due("places go on in the next block", y.token(y.token(-1, 0) - 1, 2), 2000);
    }
}

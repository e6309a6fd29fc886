import java.io.ByteArrayInputStream;
import java.util.Arrays;
import java.util.List;
import java.util.zip.Deflater;
import java.util.zip.GZIPInputStream;
import java.util.zip.Inflater;

/** Promises 13 and 17: PACKING by BLOCKS, RIM and MEMBER; LENGTHS BY COUNTS; bits. */
public final class BlocksTest {
    public static void main(String[] args) throws Exception {
        stored();
        fixed();
        lengthSymbols();
        distanceSymbols();
        own();
        ownBlocks();
        oneCount();
        sameCounts();
        limits();
        steepCounts();
        toldLengths();
        zeros();
        lengthsAgain();
        overBothCodes();
        steps();
        rim();
        member();
        bits();
        foreignOpeners();
        Check.end("BlocksTest");
    }

    private static void stored() {
        Check.says("PACKING by LEVELS: 0: STORED blocks of 1000 octets, the last one with fewer (none of 0 "
                + "octets, but for an empty text).");
        Check.packs("none", 3, 0, Forms.NONE, Check.octets(1, 0, 0, 255, 255));
        Check.packs("3", 3, 0, Check.octets("abc"), Check.octets(1, 3, 0, 252, 255, "abc"));
        byte[] most = Check.times(5, 1000);
        byte[] head = Check.octets(232, 3, 23, 252);
        Check.packs("999", 3, 0, Check.times(5, 999), Check.octets(1, 231, 3, 24, 252, Check.times(5, 999)));
        Check.packs("1000", 3, 0, most, Check.octets(1, head, most));
        Check.packs("1001", 3, 0, Check.times(5, 1001), Check.octets(0, head, most, 1, 1, 0, 254, 255, 5));
        Check.packs("2000", 3, 0, Check.times(5, 2000), Check.octets(0, head, most, 1, head, most));
        PackingHouse x = new PackingHouse();
        x.fill(0, 6000, 1);
        x.pack(3, 0);
        Check.due("6000", x.length(1), 6 * 1005);
        Check.due("its last block", x.at(1, 5 * 1005), 1);
        Check.due("the one before", x.at(1, 4 * 1005), 0);
    }

    private static void fixed() {
        Check.says("1: one FIXED block, GREEDY (3 .. 258, reach 32768).");
        Check.packs("none", 3, 1, Forms.NONE, Check.hex("0300"));
        Check.packs("abc", 3, 1, Check.octets("abc"), Check.hex("4b4c4a0600"));
        Check.packs("a match of 3", 3, 1, Check.octets("aaaa"),
                Forms.fixedRow().code(Forms.fixed('a')).code(Forms.fixed(257)).code(Forms.five(0))
                        .code(Forms.fixed(256)).octets());
        PackingHouse x = new PackingHouse();
        x.fill(3, 6000, 1);
        x.pack(3, 1);
        Check.due("the first block is the last one", x.at(1, 0) & 7, 3);
        Check.says("FIXED: lengths of codes 8 for 0 .. 143, 9 for 144 .. 255, 7 for 256 .. 279, 8 for 280 .. 287; "
                + "distances 5 for 0 .. 31");
        for (int v : new int[] {0, 1, 143, 144, 255}) {
            Check.packs("octet " + v, 3, 1, Check.octets(v),
                    Forms.fixedRow().code(Forms.fixed(v)).code(Forms.fixed(256)).octets());
        }
        // 114 is the last length by 279, 115 the first by 280
        Check.packs("279", 3, 1, Check.times(0, 115), Forms.fixedRow().code(Forms.fixed(0)).code(Forms.fixed(279))
                .number(15, 4).code(Forms.five(0)).code(Forms.fixed(256)).octets());
        Check.packs("280", 3, 1, Check.times(0, 116), Forms.fixedRow().code(Forms.fixed(0)).code(Forms.fixed(280))
                .number(0, 4).code(Forms.five(0)).code(Forms.fixed(256)).octets());
    }

    private static void lengthSymbols() {
        Check.says("257 .. 264 are 3 .. 10; then each four have 1, 2, 3, 4, 5 more bits, and go on from where "
                + "those before ended: 265 is 11 and 12, .., 284 is 227 .. 257");
        int length = 3;
        for (int s = 257; s <= 284; s++) {
            int more = s < 265 ? 0 : (s - 261) / 4;
            int many = s == 284 ? 31 : 1 << more;
            for (int v : new int[] {0, many - 1}) {
                BitRow row = Forms.fixedRow().code(Forms.fixed('a')).code(Forms.fixed(s)).number(v, more)
                        .code(Forms.five(0)).code(Forms.fixed(256));
                byte[] text = Check.times('a', length + v + 1);
                Check.packs("length " + (length + v), 3, 1, text, row.octets());
                Check.opens("length " + (length + v), 3, row.octets(), text);
            }
            length += many;
        }
        Check.due("285 is next", length, 258);
        Check.says("LENGTH 258 is written 285.");
        for (int level = 1; level <= 3; level += 2) {
            Check.packs("258 by level " + level, 3, level, Check.times('a', 259), Forms.fixedRow()
                    .code(Forms.fixed('a')).code(Forms.fixed(285)).code(Forms.five(0)).code(Forms.fixed(256)).octets());
        }
        PackingHouse x = Check.house(Check.times('a', 259));
        x.pack(3, 2);
        Check.due("by OWN", new OwnHead(Check.stream(x, 1), 0).firstTold, 286);
    }

    private static void distanceSymbols() {
        Check.says("DISTANCES 0 .. 3 are 1 .. 4; then each two have 1, 2, .., 13 more bits and go on likewise: 4 "
                + "is 5 and 6, .., 29 is 24577 .. 32768.");
        int distance = 1;
        for (int d = 0; distance + 3 <= 6000; d++) {
            int more = d < 4 ? 0 : (d - 2) / 2;
            for (int v : new int[] {0, (1 << more) - 1}) {
                if (distance + v + 6 <= 6000) {
                    lastMatch(d, more, v, distance + v);
                }
            }
            distance += 1 << more;
        }
    }

    /** Three octets that stand once before, so far away: what the match is written as. */
    private static void lastMatch(int symbol, int more, int bits, int distance) {
        byte[] others = Arrays.copyOfRange(Forms.pairs(6256), 256, 256 + Math.max(0, distance - 3));
        byte[] text = distance < 3 ? Check.octets(Arrays.copyOf(Check.octets("yz"), distance),
                Arrays.copyOf(Check.octets(distance == 1 ? "yyy" : "yzy"), 3)) : Check.octets("xyz", others, "xyz");
        PackingHouse x = Check.house(text);
        x.pack(3, 1);
        Check.due("distance " + distance, x.token(x.token(-1, 0) - 1, 1), distance);
        byte[] got = Check.stream(x, 1);
        BitRow tail = BitRow.low().code(Forms.fixed(257)).code(Forms.five(symbol)).number(bits, more)
                .code(Forms.fixed(256));
        Check.due("its bits", lastBits(got, x.bits(), tail.size()), tail.text());
    }

    private static String lastBits(byte[] octets, int end, int many) {
        StringBuilder all = new StringBuilder();
        for (int i = end - many; i < end; i++) {
            all.append(octets[i / 8] >> i % 8 & 1);
        }
        return all.toString();
    }

    private static OwnHead head(byte[] text) {
        PackingHouse x = Check.house(text);
        x.pack(3, 2);
        return new OwnHead(Check.stream(x, 1), 0);
    }

    private static void own() {
        Check.says("2: one OWN block, LAZY.");
        // one symbol each in the first code and none in the other
        BitRow own = Forms.ownRow(257, 1, Forms.PLAIN_STEPS);
        own.code("0").number(127, 7).code("0").number(107, 7).code("11").code("10").code("0");
        Check.packs("none", 3, 2, Forms.NONE, own.octets());
        OwnHead head = head(Forms.filled(Forms.NONE, 3, 5000, 1));
        Check.holds("the first is the last", head.isLast && head.type == 2);
        Check.says("OWN: codes by counts of what the block has (256 once), limit 15");
        for (int seed = 0; seed < 8; seed++) {
            byte[] text = Forms.filled(Forms.filled(Forms.NONE, 1, 300, seed), seed % 4, 700, seed + 9);
            PackingHouse x = Check.house(text);
            x.pack(3, 2);
            head = new OwnHead(Check.stream(x, 1), 0);
            int[][] counts = counts(x, text, 0, text.length);
            Check.due("the first code, " + seed, told(head.first, 286), told(Forms.lengthsByCounts(counts[0], 15), 286));
            Check.due("the other one, " + seed, told(head.other, 30), told(Forms.lengthsByCounts(counts[1], 15), 30));
        }
    }

    private static String told(int[] lengths, int many) {
        return Arrays.toString(Arrays.copyOf(lengths, many));
    }

    /** How often each symbol of the two codes comes in the tokens of a block. */
    private static int[][] counts(PackingHouse x, byte[] text, int from, int to) {
        int[][] counts = new int[2][];
        counts[0] = new int[286];
        counts[1] = new int[30];
        counts[0][256] = 1;
        for (int i = 0; i < x.token(-1, 0); i++) {
            int place = x.token(i, 2);
            if (place >= from && place < to) {
                int length = x.token(i, 0);
                counts[0][length == 1 ? text[place] & 255 : lengthSymbol(length)]++;
                if (length > 1) {
                    counts[1][distanceSymbol(x.token(i, 1))]++;
                }
            }
        }
        return counts;
    }

    private static int lengthSymbol(int length) {
        int first = 3;
        for (int s = 257; s < 285; s++) {
            first += s < 265 ? 1 : 1 << (s - 261) / 4;
            if (length < first && length < 258) {
                return s;
            }
        }
        return 285;
    }

    private static int distanceSymbol(int distance) {
        int first = 1;
        int d = 0;
        for (; ; d++) {
            first += d < 4 ? 1 : 1 << (d - 2) / 2;
            if (distance < first) {
                return d;
            }
        }
    }

    private static void ownBlocks() {
        Check.says("4: OWN blocks of 2000 octets, the last one with fewer (none of 0, but for an empty text)");
        PackingHouse none = new PackingHouse();
        none.pack(3, 4);
        none.pack(3, 2);
        Check.due("an empty text has one", none.differ(1, 2), -1);
        for (int n : new int[] {1, 1999, 2000, 2001, 3999, 4000, 4001, 6000}) {
            byte[] text = Forms.filled(Forms.NONE, 1, n, n);
            PackingHouse x = new PackingHouse();
            x.fill(1, n, n);
            x.pack(3, 4);
            byte[] got = Check.stream(x, 1);
            int bit = 0;
            int blocks = 0;
            boolean isLast = false;
            for (; !isLast && blocks < 9; blocks++) {
                OwnHead head = new OwnHead(got, bit);
                Check.due("type", head.type, 2);
                int[][] counts = counts(x, text, 2000 * blocks, 2000 * blocks + 2000);
                Check.due("its own counts", told(head.first, 286), told(Forms.lengthsByCounts(counts[0], 15), 286));
                Check.due("its own counts", told(head.other, 30), told(Forms.lengthsByCounts(counts[1], 15), 30));
                isLast = head.isLast;
                bit += head.size + bodySize(head, counts);
            }
            Check.due("blocks of " + n, blocks, (n + 1999) / 2000);
            Check.due("its bits", x.bits(), bit);
        }
    }

    private static int bodySize(OwnHead head, int[][] counts) {
        int size = 0;
        for (int s = 0; s < head.firstTold; s++) {
            int more = s < 265 || s == 285 ? 0 : (s - 261) / 4;
            size += counts[0][s] * (head.first[s] + more);
        }
        for (int d = 0; d < head.otherTold; d++) {
            size += counts[1][d] * (head.other[d] + (d < 4 ? 0 : (d - 2) / 2));
        }
        return size;
    }

    private static void oneCount() {
        Check.says("If there is one, its length is 1.");
        OwnHead head = head(Forms.NONE);
        Check.due("256 alone", head.first[256], 1);
        Check.due("and nothing else", Arrays.stream(head.first).sum(), 1);
        head = head(Check.octets("aaaa"));
        Check.due("one distance", Arrays.toString(head.other), "[1]");
        head = head(Check.octets("abcdeabcde"));
        Check.due("another one", Arrays.toString(head.other), "[0, 0, 0, 0, 1]");
        head = head(Check.octets("a"));
        Check.due("two symbols", head.first['a'] + head.first[256], 2);
        Check.due("no distance", Arrays.toString(head.other), "[0]");
    }

    private static void sameCounts() {
        Check.says("Else, again and again, the two with the least counts are joined, till one is left (of the "
                + "same count leaves come before what was joined, leaves in their order, what was joined in the "
                + "order of joining); the count of what is joined is the sum. A length is how many joinings a "
                + "symbol is in.");
        // three of one: the first two are joined, then with the third
        Check.due("1 1 1", Arrays.toString(lengths("ab")), "[2, 2, 1]");
        Check.due("1 1 1 1", Arrays.toString(lengths("abc")), "[2, 2, 2, 2]");
        // 2 (a b), 2 (c d), 256: 256 goes with a b
        Check.due("1 1 1 1 1", Arrays.toString(lengths("abcd")), "[3, 3, 2, 2, 2]");
        Check.due("nine", Arrays.toString(lengths("abcdefgh")), "[4, 4, 3, 3, 3, 3, 3, 3, 3]");
        // a has 2, b 1, 256 1: what is joined has 2, too
        Check.due("2 1 1", Arrays.toString(lengths("aab")), "[1, 2, 2]");
        // a 2, b 1, c 1, 256 1: b c are joined; 256 goes with a, a leaf before what was joined
        Check.due("2 1 1 1", Arrays.toString(lengths("aabc")), "[2, 2, 2, 2]");
        Check.due("3 1 1 1", Arrays.toString(lengths("aabac")), "[1, 3, 3, 2]");
        Check.says("LENGTHS BY COUNTS, with a limit: symbols with a count are leaves, in their order.");
        for (String text : new String[] {"ab", "abcd", "aabac", "aabbccdde", "abbcccd"}) {
            int[] counts = new int[257];
            for (char c : text.toCharArray()) {
                counts[c]++;
            }
            counts[256] = 1;
            int[] all = Forms.lengthsByCounts(counts, 15);
            Check.due(text, Arrays.toString(lengths(text)), Arrays.toString(Arrays.stream(all).filter(n -> n > 0).toArray()));
        }
        Check.says("PREFIX CODES hang on the lengths of their symbols (0: it has none): codes of one length "
                + "follow one another in the order of symbols, from the least length on; the first of all is 0, "
                + "the first of a length is twice what follows the last one of the length that is less by 1.");
        // lengths 1, 3, 3, 2 of a, b, c, 256: codes 0, 110, 111, 10
        PackingHouse x = Check.house(Check.octets("aabac"));
        x.pack(3, 2);
        byte[] got = Check.stream(x, 1);
        Check.due("aabac and the end", lastBits(got, x.bits(), 11), "0" + "0" + "110" + "0" + "111" + "10");
        Check.due("behind the head", x.bits(), new OwnHead(got, 0).size + 11);
    }

    /** The lengths of the symbols that a text without matches has, and of its end. */
    private static int[] lengths(String text) {
        return Arrays.stream(head(Check.octets(text)).first).filter(n -> n > 0).toArray();
    }

    private static void limits() {
        Check.says("If one is above the limit, each count c is (c + 1) / 2, rounded down, and all is done anew.");
        int[][] fills = {{0, 200, 45940987, 1, 50, 460423024},
            {0, 200, 781924750, 1, 50, 458489380, 3, 200, 341828900},
            {0, 200, 930463701, 1, 50, 726540503, 1, 200, 539858145}};
        for (int[] fill : fills) {
            PackingHouse x = new PackingHouse();
            for (int i = 0; i < fill.length; i += 3) {
                x.fill(fill[i], fill[i + 1], fill[i + 2]);
            }
            x.pack(3, 2);
            OwnHead head = new OwnHead(Check.stream(x, 1), 0);
            int[] free = Forms.lengthsByCounts(head.stepCounts, 99);
            Check.holds("a third code of 8 or more", Arrays.stream(free).max().getAsInt() > 7);
            Check.due("with its limit", told(head.third, 19), told(Forms.lengthsByCounts(head.stepCounts, 7), 19));
        }
        Check.says("the third code by counts of these, limit 7");
        for (int n : new int[] {0, 1, 2, 5, 20, 100, 500, 2000}) {
            OwnHead head = head(Forms.filled(Forms.NONE, 0, n, n));
            Check.due("of " + n, told(head.third, 19), told(Forms.lengthsByCounts(head.stepCounts, 7), 19));
        }
    }

    /** Counts that grow so fast that a code of 15 or 16 bits is made of them (and of 256, once). */
    private static int[] steep(int a, int b) {
        int[] all = new int[32];
        Arrays.fill(all, 199);
        int[] first = {1, 1, 3, 4, 7, 11, 18, 29, 47, 76, 123, 199, 322, a, b, b};
        System.arraycopy(first, 0, all, 0, first.length);
        return all;
    }

    /** Octets nearly as often as is told; no three that follow one another come again, so there is no match. */
    private static byte[] steepText(int[] counts) {
        int k = counts.length;
        int[] left = counts.clone();
        boolean[] used = new boolean[k * k * k];
        int[] free = new int[k * k];
        Arrays.fill(free, k);
        byte[] text = new byte[6000];
        text[0] = 1;
        text[1] = 0;
        left[0]--;
        left[1]--;
        for (int n = 2; ; n++) {
            int pair = text[n - 2] * k + text[n - 1];
            int best = -1;
            double most = 0;
            for (int c = 0; c < k; c++) {
                // what is left of it counts, and in how many ways the text can go on behind it
                double worth = left[c] * Math.sqrt(free[text[n - 1] * k + c]);
                if (!used[pair * k + c] && worth > most) {
                    most = worth;
                    best = c;
                }
            }
            if (best < 0) {
                return Arrays.copyOf(text, n);
            }
            used[pair * k + best] = true;
            free[pair]--;
            left[best]--;
            text[n] = (byte) best;
        }
    }

    private static void steepCounts() {
        Check.says("OWN: codes by counts of what the block has (256 once), limit 15");
        Check.holds("just at the limit it stays", isFree(steepText(steep(523, 525)), 15));
        Check.holds("above it there is another one", !isFree(steepText(steep(524, 527)), 16));
    }

    /** Whether the first code of a text of literals is the one without a limit, whose greatest length is told. */
    private static boolean isFree(byte[] text, int greatest) {
        int[] counts = new int[286];
        for (byte v : text) {
            counts[v]++;
        }
        counts[256] = 1;
        int[] free = Forms.lengthsByCounts(counts, 99);
        Check.due("without a limit it would be", Arrays.stream(free).max().getAsInt(), greatest);
        // so many octets come by fewer than 512 calls when they are packed
        Deflater deflater = new Deflater(9, true);
        deflater.setInput(text);
        deflater.finish();
        byte[] packed = new byte[6000];
        PackingHouse x = Check.house(Arrays.copyOf(packed, deflater.deflate(packed)));
        deflater.end();
        Check.due("open", x.open(3), 1);
        Check.due("load", x.load(1), text.length);
        Check.due("pack", x.pack(3, 2), 2);
        Check.due("no match", x.token(-1, 0), text.length);
        byte[] begin = new byte[70];
        for (int i = 0; i < begin.length; i++) {
            begin[i] = (byte) x.at(2, i);
        }
        OwnHead head = new OwnHead(begin, 0);
        int[] want = Forms.lengthsByCounts(counts, 15);
        Check.due("with it", told(head.first, 286), told(want, 286));
        int bits = head.size;
        for (int s = 0; s < 286; s++) {
            bits += counts[s] * want[s];
        }
        Check.due("its bits", x.bits(), bits);
        x.load(2);
        Check.due("it comes back", x.differ(1, x.open(3)), -1);
        return Arrays.equals(free, want);
    }

    private static void toldLengths() {
        Check.says("HL the least that tells all, but 257 at least, HD likewise 1");
        Check.due("literals alone", head(Check.octets("a")).firstTold, 257);
        Check.due("a match of 3", head(Check.octets("aaaa")).firstTold, 258);
        Check.due("a match of 10", head(Check.times('a', 11)).firstTold, 265);
        Check.due("a match of 11", head(Check.times('a', 12)).firstTold, 266);
        Check.due("a match of 257", head(Check.times('a', 258)).firstTold, 285);
        Check.due("a match of 258", head(Check.times('a', 259)).firstTold, 286);
        Check.due("no distance", head(Check.octets("a")).otherTold, 1);
        Check.due("distance 1", head(Check.octets("aaaa")).otherTold, 1);
        Check.due("distance 2", head(Check.octets("ababab")).otherTold, 2);
        Check.due("distance 4", head(Check.octets("abcdabcd")).otherTold, 4);
        Check.due("distance 5", head(Check.octets("abcdeabcde")).otherTold, 5);
        byte[] far = Check.octets("xyz", Arrays.copyOfRange(Forms.pairs(6256), 256, 256 + 5990), "xyz");
        Check.due("distance 5993", head(far).otherTold, 25);
    }

    private static void steps(String what, byte[] text, String... want) {
        Check.due(what, head(text).steps.toString(), List.of(want).toString());
    }

    private static void zeros() {
        Check.says("lengths told, from the left, over both codes in one: 0s that follow one another, at most 138 "
                + "at once: 18 for 11 or more, 17 for 3 or more (10 at most at once if they are fewer than 11)");
        // octets 0 and some v: v - 1 lengths of 0 are between them; lengths of 0, v, 256 are 2, 2, 1
        steps("1", Check.octets(0, 2), "2", "0", "2", "18+127", "18+104", "1", "0");
        steps("2", Check.octets(0, 3), "2", "0", "0", "2", "18+127", "18+103", "1", "0");
        steps("3", Check.octets(0, 4), "2", "17+0", "2", "18+127", "18+102", "1", "0");
        steps("10", Check.octets(0, 11), "2", "17+7", "2", "18+127", "18+95", "1", "0");
        steps("11", Check.octets(0, 12), "2", "18+0", "2", "18+127", "18+94", "1", "0");
        steps("137", Check.octets(0, 138), "2", "18+126", "2", "18+106", "1", "0");
        steps("138", Check.octets(0, 139), "2", "18+127", "2", "18+105", "1", "0");
        steps("139", Check.octets(0, 140), "2", "18+127", "0", "2", "18+104", "1", "0");
        steps("140", Check.octets(0, 141), "2", "18+127", "0", "0", "2", "18+103", "1", "0");
        steps("141", Check.octets(0, 142), "2", "18+127", "17+0", "2", "18+102", "1", "0");
        steps("148", Check.octets(0, 149), "2", "18+127", "17+7", "2", "18+95", "1", "0");
        steps("149", Check.octets(0, 150), "2", "18+127", "18+0", "2", "18+94", "1", "0");
        steps("256", Forms.NONE, "18+127", "18+107", "1", "0");
    }

    private static void lengthsAgain() {
        Check.says("another length that is like the one before, as often as it follows, at most 6 at once: 16 for "
                + "3 or more; else one by itself");
        // 7 octets and the end have lengths of 3, 15 of 4, 31 of 5
        steps("2 more", Check.octets(Forms.ramp(0, 3), Forms.ramp(20, 4)),
                "3", "3", "3", "18+6", "3", "16+0", "18+127", "18+83", "3", "0");
        steps("3 more", Check.octets(Forms.ramp(0, 4), Forms.ramp(20, 3)),
                "3", "16+0", "18+5", "3", "3", "3", "18+127", "18+84", "3", "0");
        steps("5 more", Check.octets(Forms.ramp(0, 6), 20), "3", "16+2", "18+3", "3", "18+127", "18+86", "3", "0");
        steps("6 more", Forms.ramp(0, 7), "3", "16+3", "18+127", "18+100", "3", "0");
        steps("7 more", Check.octets(Forms.ramp(0, 8), Forms.ramp(20, 7)),
                "4", "16+3", "4", "18+1", "4", "16+3", "18+127", "18+80", "4", "0");
        steps("8 more", Check.octets(Forms.ramp(0, 9), Forms.ramp(20, 6)),
                "4", "16+3", "4", "4", "18+0", "4", "16+2", "18+127", "18+81", "4", "0");
        steps("9 more", Check.octets(Forms.ramp(0, 10), Forms.ramp(20, 5)),
                "4", "16+3", "16+0", "17+7", "4", "16+1", "18+127", "18+82", "4", "0");
        steps("30 more", Forms.ramp(0, 31), "5", "16+3", "16+3", "16+3", "16+3", "16+3", "18+127", "18+76", "5", "0");
        // 4, 4, then 3s: the first of another length stands by itself
        steps("another length", Forms.ramp(0, 8), "4", "4", "3", "16+2", "18+127", "18+99", "3", "0");
    }

    private static void overBothCodes() {
        Check.says("over both codes in one");
        // 97, 98, 256, 257 have 2 each; distances 1, 2, 6 have 2, 2, 1: the 16 goes from the first code to the other
        steps("a 16", Check.octets("aaaababaaabba"), "18+86", "2", "2", "18+127", "18+8", "2", "16+0", "0", "0", "1");
        // no 16 or 18 stands at the end of the first code: its last length is not 0
        OwnHead head = head(Check.octets("abcdefghijklmabcdefghijklm"));
        Check.due("0s of the other code", head.steps.get(head.steps.size() - 2), "17+4");
    }

    private static void steps() {
        Check.says("STEPS the fewest that tell all, 4 at least.");
        // symbols 18, 0, 1, the last of which is told as the 18th
        Check.due("with 1", head(Forms.NONE).stepsTold, 18);
        // symbols 4, 16, 18, 0: 4 is told as the 12th
        Check.due("with 4", head(Check.octets(Forms.ramp(0, 15))).stepsTold, 12);
        // all 256 octets: lengths of 8, and 9 for some of them
        int[] told = head(Forms.ramp(0, 256)).third;
        int last = 0;
        int[] order = {16, 17, 18, 0, 8, 7, 9, 6, 10, 5, 11, 4, 12, 3, 13, 2, 14, 1, 15};
        for (int i = 0; i < 19; i++) {
            last = told[order[i]] > 0 ? i + 1 : last;
        }
        Check.due("with 9", head(Forms.ramp(0, 256)).stepsTold, last);
        Check.holds("that is few", last < 10 && last >= 4);
    }

    private static void rim() {
        Check.says("KIND 4, RIM: octet 120 (its low four bits 8, its high ones 7), an octet whose two highest "
                + "bits are the level (3 for 4), with bit 5 as 0, the least with which both HIGH FIRST are a "
                + "multiple of 31; BLOCKS; ADLER of the text, HIGH FIRST.");
        int[] flags = {1, 94, 156, 218, 218};
        for (int level = 0; level <= 4; level++) {
            PackingHouse x = Check.house(Check.octets("abcabcabc"));
            x.pack(3, level);
            byte[] body = Check.stream(x, 1);
            x.pack(4, level);
            Check.due("level " + level, Check.stream(x, 2),
                    Check.octets(120, flags[level], body, Check.hex("113d0373")));
        }
        Check.packs("none", 4, 1, Forms.NONE, Check.octets(120, 94, 3, 0, 0, 0, 0, 1));
    }

    private static void member() {
        Check.says("PACKING: FLAGS 0.");
        for (int level = 0; level <= 4; level++) {
            PackingHouse x = Check.house(Check.octets("abcabcabc"));
            x.pack(3, level);
            byte[] body = Check.stream(x, 1);
            x.pack(5, level);
            Check.due("level " + level, Check.stream(x, 2), Check.octets(31, 139, 8, 0, 0, 0, 0, 0, 0, 255, body,
                    Check.low(Forms.round(Check.octets("abcabcabc")), 4), 9, 0, 0, 0));
        }
        Check.says("ROUND of the text, and how many octets it has, both 4 octets LOW FIRST.");
        Check.packs("none", 5, 1, Forms.NONE, Check.octets(31, 139, 8, 0, 0, 0, 0, 0, 0, 255, 3, 0, new byte[8]));
        PackingHouse x = new PackingHouse();
        x.fill(3, 6000, 2);
        long round = x.sum(1);
        x.pack(5, 3);
        byte[] got = Check.stream(x, 1);
        Check.due("6000", Arrays.copyOfRange(got, got.length - 8, got.length),
                Check.octets(Check.low(round, 4), Check.low(6000, 4)));
    }

    private static void bits() {
        Check.says("How many bits BLOCKS had, up to the last one that tells something, in the last pack() that "
                + "was not refused, if that was by a KIND 3, 4, 5; else 0.");
        PackingHouse x = Check.house(Check.octets("abc"));
        x.pack(3, 1);
        Check.due("3 and 3 * 8 and 7", x.bits(), 34);
        x.pack(4, 1);
        Check.due("of RIM's BLOCKS alone", x.bits(), 34);
        x.pack(5, 0);
        Check.due("STORED, what is passed over too", x.bits(), 64);
        x.pack(11, 0);
        x.pack(3, 5);
        Check.due("it stays when refused", x.bits(), 64);
        x.open(3);
        x.name('n', 1);
        x.entry(1, 0, 0);
        x.write(13, 1);
        Check.due("it stays in others", x.bits(), 64);
        for (int kind : new int[] {1, 2, 6, 7, 8, 9, 10}) {
            x.pack(kind, 0);
            Check.due("0 after " + kind, x.bits(), 0);
            x.drop(5);
            x.pack(3, 1);
            Check.due("34 again", x.bits(), 34);
            x.drop(5);
        }
        Check.useNumbers(x);
        x.drop(1);
        x.pack(4, 1);
        x.feed('d', 1);
        Check.due("no number is free", x.pack(3, 1), -4);
        Check.due("it stays", x.bits(), 34);
        PackingHouse y = new PackingHouse();
        y.pack(3, 0);
        Check.due("none, STORED", y.bits(), 40);
        y.pack(3, 1);
        Check.due("none, FIXED", y.bits(), 10);
        y.pack(3, 2);
        Check.due("none, OWN", y.bits(), 92);
        y.fill(0, 6000, 1);
        y.pack(3, 0);
        Check.due("six of 1000", y.bits(), 6 * 1005 * 8);
    }

    private static void foreignOpeners() throws Exception {
        Check.says("packers by published forms and one of its own");
        for (byte[] text : Check.someTexts()) {
            for (int level = 0; level <= 4; level++) {
                PackingHouse x = Check.house(text);
                x.pack(3, level);
                Check.due("raw, level " + level, inflated(Check.stream(x, 1), true, text.length), text);
                x.pack(4, level);
                Check.due("zlib, level " + level, inflated(Check.stream(x, 2), false, text.length), text);
                x.pack(5, level);
                byte[] member = Check.stream(x, 3);
                Check.due("gzip, level " + level,
                        new GZIPInputStream(new ByteArrayInputStream(member)).readAllBytes(), text);
            }
        }
    }

    private static byte[] inflated(byte[] packed, boolean raw, int size) throws Exception {
        Inflater inflater = new Inflater(raw);
        inflater.setInput(packed);
        byte[] all = new byte[size + 10];
        int n = inflater.inflate(all);
        Check.holds("the end", inflater.finished() && inflater.getRemaining() == 0);
        inflater.end();
        return Arrays.copyOf(all, n);
    }
}

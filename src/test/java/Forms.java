import java.util.ArrayList;
import java.util.Arrays;
import java.util.List;
import java.util.zip.CRC32;

/** Texts in the forms of the document, written by hand, and what they are made of. */
final class Forms {
    static final byte[] NONE = new byte[0];
    static final byte[] TWO_ROWS = new byte[1024];
    static final byte[] BENCH_MARK = Check.octets("!<arch>\n");
    /** Steps of a third code with the symbols 18: 0, 0: 10, 1: 11. */
    static final int[] PLAIN_STEPS = {0, 0, 1, 2, 0, 0, 0, 0, 0, 0, 0, 0, 0, 0, 0, 0, 0, 2};
    /** Likewise with 0: 00, 1: 01, 16: 10, 18: 11. */
    static final int[] AGAIN_STEPS = {2, 0, 2, 2, 0, 0, 0, 0, 0, 0, 0, 0, 0, 0, 0, 0, 0, 2};

    private Forms() {
    }

    /** What fill() puts behind a text, with that text. */
    static byte[] filled(byte[] before, int kind, int n, int seed) {
        byte[] all = Arrays.copyOf(before, before.length + n);
        long z = seed & 0xFFFFFFFFL;
        for (int i = before.length; i < all.length; i++) {
            z = (z * 1664525 + 1013904223) % (1L << 32);
            int r = (int) (z >> 24);
            all[i] = (byte) (kind == 1 ? 97 + r % 4 : kind == 2 && i >= 17 && r < 240 ? all[i - 17]
                    : kind == 3 && i >= 1 && r < 230 ? all[i - 1] : r);
        }
        return all;
    }

    /** Octets from one up, each once. */
    static byte[] ramp(int from, int many) {
        byte[] all = new byte[many];
        for (int i = 0; i < many; i++) {
            all[i] = (byte) (from + i);
        }
        return all;
    }

    /** No pair of octets stands in it twice: by WORDS each octet is a code, and there is no match. */
    static byte[] pairs(int many) {
        byte[] all = new byte[many];
        int n = 0;
        for (int step = 1; n < many; step += 2) {
            int v = 0;
            for (int i = 0; i < 256 && n < many; i++) {
                all[n] = (byte) v;
                n++;
                v = v + step & 255;
            }
        }
        return all;
    }

    static byte[] with(byte[] octets, int at, int v) {
        byte[] other = octets.clone();
        other[at] = (byte) v;
        return other;
    }

    static long round(byte[] text) {
        CRC32 sum = new CRC32();
        sum.update(text);
        return sum.getValue();
    }

    static long turned(byte[] text) {
        int r = -1;
        for (byte b : text) {
            r ^= b << 24;
            for (int i = 0; i < 8; i++) {
                r = r < 0 ? r << 1 ^ 0x04C11DB7 : r << 1;
            }
        }
        return ~r & 0xFFFFFFFFL;
    }

    static long mixed(byte[] text) {
        long h = 374761393L;
        int p = 0;
        if (text.length >= 16) {
            int[] lanes = {(int) (2654435761L + 2246822519L), (int) 2246822519L, 0, (int) -2654435761L};
            for (; p + 16 <= text.length; p += 16) {
                for (int k = 0; k < 4; k++) {
                    lanes[k] += (int) (word(text, p + 4 * k) * 2246822519L);
                    lanes[k] = Integer.rotateLeft(lanes[k], 13) * (int) 2654435761L;
                }
            }
            h = Integer.rotateLeft(lanes[0], 1) + Integer.rotateLeft(lanes[1], 7) + Integer.rotateLeft(lanes[2], 12)
                    + Integer.rotateLeft(lanes[3], 18);
        }
        h += text.length;
        for (; p + 4 <= text.length; p += 4) {
            h = Integer.rotateLeft((int) (h + word(text, p) * 3266489917L), 17) * 668265263L;
        }
        for (; p < text.length; p++) {
            h = Integer.rotateLeft((int) (h + (text[p] & 255) * 374761393L), 11) * 2654435761L;
        }
        h &= 0xFFFFFFFFL;
        h = (h ^ h >> 15) * 2246822519L & 0xFFFFFFFFL;
        h = (h ^ h >> 13) * 3266489917L & 0xFFFFFFFFL;
        return h ^ h >> 16;
    }

    private static long word(byte[] text, int p) {
        return text[p] & 255 | (text[p + 1] & 255) << 8 | (text[p + 2] & 255) << 16 | (long) (text[p + 3] & 255) << 24;
    }

    static byte[] sevens(long v) {
        byte[] all = NONE;
        for (; v > 127; v >>= 7) {
            all = Check.octets(all, (int) (128 | v & 127));
        }
        return Check.octets(all, (int) v);
    }

    // codes

    /** LENGTHS BY COUNTS, as the document has it: the two least are looked for each time. */
    static int[] lengthsByCounts(int[] tally, int limit) {
        int[] counts = tally.clone();
        int[] lengths = joined(counts);
        while (Arrays.stream(lengths).max().orElse(0) > limit) {
            for (int s = 0; s < counts.length; s++) {
                counts[s] = (counts[s] + 1) / 2;
            }
            lengths = joined(counts);
        }
        return lengths;
    }

    private static int[] joined(int[] counts) {
        int[] lengths = new int[counts.length];
        // each: its count, then its symbols; leaves stand before what was joined
        List<int[]> left = new ArrayList<>();
        for (int s = 0; s < counts.length; s++) {
            if (counts[s] > 0) {
                left.add(new int[] {counts[s], s});
            }
        }
        if (left.size() == 1) {
            lengths[left.get(0)[1]] = 1;
        }
        while (left.size() > 1) {
            int[] a = takeLeast(left);
            int[] b = takeLeast(left);
            int[] both = Arrays.copyOf(a, a.length + b.length - 1);
            System.arraycopy(b, 1, both, a.length, b.length - 1);
            both[0] = a[0] + b[0];
            for (int i = 1; i < both.length; i++) {
                lengths[both[i]]++;
            }
            left.add(both);
        }
        return lengths;
    }

    private static int[] takeLeast(List<int[]> left) {
        int best = 0;
        for (int i = 1; i < left.size(); i++) {
            if (left.get(i)[0] < left.get(best)[0]) {
                best = i;
            }
        }
        return left.remove(best);
    }

    /** The bits of a number, the highest first. */
    static String bits(long v, int n) {
        StringBuilder all = new StringBuilder();
        for (int i = n - 1; i >= 0; i--) {
            all.append(v >> i & 1);
        }
        return all.toString();
    }

    static String[] codes(int[] lengths) {
        String[] all = new String[lengths.length];
        int code = 0;
        for (int n = 1; n <= 20; n++) {
            for (int s = 0; s < lengths.length; s++) {
                if (lengths[s] == n) {
                    all[s] = bits(code, n);
                    code++;
                }
            }
            code *= 2;
        }
        return all;
    }

    // BLOCKS

    static BitRow fixedRow() {
        return BitRow.low().number(1, 1).number(1, 2);
    }

    /** A symbol of the first code of a FIXED block. */
    static String fixed(int symbol) {
        return symbol < 144 ? bits(48 + symbol, 8) : symbol < 256 ? bits(400 + symbol - 144, 9)
                : symbol < 280 ? bits(symbol - 256, 7) : bits(192 + symbol - 280, 8);
    }

    /** A symbol of the other one. */
    static String five(int symbol) {
        return bits(symbol, 5);
    }

    /** One octet so often, by matches of 258 as far as they go: a FIXED block without its end. */
    static BitRow fixedTimes(int octet, int many) {
        BitRow row = fixedRow().code(fixed(octet));
        int left = many - 1;
        for (; left >= 258; left -= 258) {
            row.code(fixed(285)).code(five(0));
        }
        for (; left > 0; left--) {
            row.code(fixed(octet));
        }
        return row;
    }

    /** A block of its own codes: HL, HD, and the STEPS in the order in which they are told. */
    static BitRow ownRow(int firstTold, int otherTold, int... steps) {
        BitRow row = BitRow.low().number(1, 1).number(2, 2).number(firstTold - 257, 5).number(otherTold - 1, 5)
                .number(steps.length - 4, 4);
        for (int step : steps) {
            row.number(step, 3);
        }
        return row;
    }

    // FRAME

    static byte[] frameHead(int flags, byte[] size) {
        byte[] facts = Check.octets(flags, 64, size);
        return Check.octets(4, 34, 77, 24, facts, (int) (mixed(facts) >> 8 & 255));
    }

    // SORTED

    static BitRow sortedHead() {
        return BitRow.high().number(0x425A6831L, 32);
    }

    static BitRow sortedEnd(BitRow row, long turned) {
        return row.number(0x177245385090L, 48).number(turned, 32);
    }

    /** A block up to the octets that are there: its mark, TURNED, the bit, ORIGIN. */
    static BitRow sortedBegin(long turned, int origin) {
        return sortedHead().number(0x314159265359L, 48).number(turned, 32).number(0, 1).number(origin, 24);
    }

    /** A block of SIGNS 97, 98 (symbols 0 .. 3): two codes of two bits each, as many choices as are told. */
    static BitRow sortedBlock(BitRow row, long turned, int origin, int choices) {
        row.number(0x314159265359L, 48).number(turned, 32).number(0, 1).number(origin, 24);
        row.number(0x8000 >> 6, 16).number(0x6000, 16).number(2, 3).number(choices, 15);
        row.code("0".repeat(choices));
        return row.number(2, 5).code("0000").number(2, 5).code("0000");
    }

    // TAPE

    static byte[] tapeRow(String name, String mode, String size, String time) {
        byte[] row = new byte[512];
        copy(row, 0, name);
        copy(row, 100, mode);
        copy(row, 108, "0000000");
        copy(row, 116, "0000000");
        copy(row, 124, size);
        copy(row, 136, time);
        row[156] = 48;
        copy(row, 257, "ustar\0" + "00");
        return withSum(row);
    }

    static byte[] withSum(byte[] row) {
        copy(row, 148, String.format("%06o\0 ", sumOf(row)));
        return row;
    }

    static int sumOf(byte[] row) {
        int sum = 0;
        for (int i = 0; i < 512; i++) {
            sum += i >= 148 && i < 156 ? 32 : row[i] & 255;
        }
        return sum;
    }

    static void copy(byte[] row, int at, String text) {
        for (int i = 0; i < text.length(); i++) {
            row[at + i] = (byte) text.charAt(i);
        }
    }

    // BENCH

    static byte[] benchRow(String name, String time, String mode, String size) {
        return Check.octets(String.format("%-16s%-12s%-6s%-6s%-8s%-10s`\n", name, time, "0", "0", mode, size));
    }

    // BOX

    /** The twenty octets that a head and its row have both. */
    static byte[] facts(int method, int time, long round, long standing, long size, int name) {
        return Check.octets(Check.low(method, 2), Check.low(time, 4), Check.low(round, 4), Check.low(standing, 4),
                Check.low(size, 4), Check.low(name, 2));
    }

    static byte[] head(byte[] facts, String name) {
        return Check.octets(Check.low(0x04034b50L, 4), 20, 0, 0, 0, facts, 0, 0, name);
    }

    static byte[] row(byte[] facts, String name, int mode, long head) {
        return Check.octets(Check.low(0x02014b50L, 4), 20, 0, 20, 0, 0, 0, facts, new byte[8],
                Check.low((long) mode << 16, 4), Check.low(head, 4), name);
    }

    static byte[] last(int many, long rows, long begin) {
        return Check.octets(Check.low(0x06054b50L, 4), 0, 0, 0, 0, Check.low(many, 2), Check.low(many, 2),
                Check.low(rows, 4), Check.low(begin, 4), 0, 0);
    }

    /** A BOX of one ENTRY whose NAME is 'n'. */
    static byte[] boxOf(byte[] facts, byte[] rowFacts, byte[] standing) {
        return boxOf(facts, rowFacts, "n", standing);
    }

    static byte[] boxOf(byte[] facts, byte[] rowFacts, String name, byte[] standing) {
        byte[] heads = Check.octets(head(facts, name), standing);
        byte[] rows = row(rowFacts, name, 420, 0);
        return Check.octets(heads, rows, last(1, rows.length, heads.length));
    }

    // ENTRIES

    static void nameOf(PackingHouse x, String name) {
        x.name(0, 0);
        for (int i = 0; i < name.length(); i++) {
            x.name(name.charAt(i), 1);
        }
    }

    static void put(PackingHouse x, String name, byte[] text, int mode, int time) {
        int s = Check.streamOf(x, text);
        nameOf(x, name);
        x.entry(s, mode, time);
        x.drop(s);
    }

    static String nameOf(PackingHouse x, int entry) {
        StringBuilder name = new StringBuilder();
        for (int i = 0; x.nameAt(entry, i) >= 0; i++) {
            name.append((char) x.nameAt(entry, i));
        }
        return name.toString();
    }

    /** What read() says of octets, and that the ENTRIES that there were stay. */
    static void readFaults(String what, int kind, byte[] octets, int rule, int place, int whole) {
        PackingHouse x = new PackingHouse();
        put(x, "kept", Check.octets("kept"), 1, 2);
        Check.tray(x, octets);
        Check.due(what + ": read", x.read(kind), -10 - rule);
        Check.due(what + ": RULE", x.fault(0), rule);
        Check.due(what + ": PLACE", x.fault(1), place);
        Check.due(what + ": whole", x.fault(2), whole);
        Check.due(what + ": the ENTRIES stay", nameOf(x, 0), "kept");
        Check.due(what + ": and how many", x.wipe(), 1);
    }

    /** A house that has read octets without a FAULT, so many ENTRIES. */
    static PackingHouse reads(String what, int kind, byte[] octets, int entries) {
        PackingHouse x = Check.house(octets);
        Check.due(what + ": read", x.read(kind), entries);
        Check.due(what + ": RULE", x.fault(0), 0);
        Check.due(what + ": PLACE", x.fault(1), 0);
        Check.due(what + ": whole", x.fault(2), entries);
        return x;
    }
}

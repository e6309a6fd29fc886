import java.io.ByteArrayInputStream;
import java.util.Arrays;
import java.util.zip.CRC32;
import java.util.zip.ZipEntry;
import java.util.zip.ZipInputStream;

/** Promises 18 to 25: name, entry, write, read, told, nameAt, extract, wipe. */
public final class ShelvesTest {
    public static void main(String[] args) throws Exception {
        names();
        entries();
        unsafe();
        writeRefusals();
        tape();
        tapeRules();
        bench();
        benchRules();
        box();
        boxRules();
        Check.end("ShelvesTest");
    }

    private static void nameOf(PackingHouse x, String name) {
        x.name(0, 0);
        for (int i = 0; i < name.length(); i++) {
            x.name(name.charAt(i), 1);
        }
    }

    private static void put(PackingHouse x, String name, byte[] text, int mode, int time) {
        int s = Check.streamOf(x, text);
        nameOf(x, name);
        x.entry(s, mode, time);
        x.drop(s);
    }

    private static void names() {
        PackingHouse x = new PackingHouse();
        Check.due("eight", x.name(0x6162636465666768L, 8), 8);
        Check.due("one more", x.name(0x0169L, 1), 9);
        Check.due("a 0 in it", x.name(0x610062L, 3), -2);
        Check.due("n -1", x.name(1, -1), -2);
        Check.due("n 9", x.name(1, 9), -2);
        for (int i = 0; i < 11; i++) {
            x.name(0x6162636465666768L, 8);
        }
        Check.due("100 at most", x.name(0x61626364L, 4), -4);
        Check.due("a 0 comes first", x.name(0x61006364L, 4), -2);
        Check.due("100", x.name(0x616263L, 3), 100);
        Check.due("no more", x.name('a', 1), -4);
        Check.due("empty", x.name(77, 0), 0);
        Check.due("anew", x.name(0x7A79L, 2), 2);
        x.pack(1, 0);
        Check.due("entry", x.entry(1, 511, Integer.MAX_VALUE), 0);
        Check.due("how long", x.told(0, 3), 2);
        Check.due("octet 0", x.nameAt(0, 0), 'z');
        Check.due("octet 1", x.nameAt(0, 1), 'y');
        Check.due("octet 2", x.nameAt(0, 2), -1);
        Check.due("octet -1", x.nameAt(0, -1), -1);
        Check.due("no such entry", x.nameAt(1, 0), -1);
        Check.due("no such entry", x.nameAt(-1, 0), -1);
        Check.due("the NAME at hand is empty then", x.entry(1, 0, 0), -2);
    }

    private static void entries() {
        PackingHouse x = new PackingHouse();
        int s = Check.streamOf(x, Check.octets("abc"));
        nameOf(x, "n");
        Check.due("no such STREAM", x.entry(s + 1, 0, 0), -1);
        Check.due("no such STREAM, nor mode", x.entry(0, -1, 0), -1);
        Check.due("mode -1", x.entry(s, -1, 0), -2);
        Check.due("mode 512", x.entry(s, 512, 0), -2);
        Check.due("time -1", x.entry(s, 0, -1), -2);
        Check.due("the first", x.entry(s, 420, 7), 0);
        Check.due("size", x.told(0, 0), 3);
        Check.due("mode", x.told(0, 1), 420);
        Check.due("time", x.told(0, 2), 7);
        Check.due("what 5", x.told(0, 5), -2);
        Check.due("what -1", x.told(0, -1), -2);
        Check.due("no such entry, nor what", x.told(1, 5), -1);
        int most = Check.longStream(x, 1, 6000);
        int more = Check.longStream(x, 1, 6001);
        nameOf(x, "n");
        Check.due("6001", x.entry(more, 0, 0), -4);
        Check.due("the NAME stays", x.entry(most, 0, 0), 1);
        for (int i = 2; i < 16; i++) {
            nameOf(x, "n");
            Check.due("one more", x.entry(s, 0, 0), i);
        }
        nameOf(x, "n");
        Check.due("a seventeenth", x.entry(s, 0, 0), -4);
        Check.due("extract", x.extract(0), 4);
        Check.due("the same", x.differ(4, s), -1);
        Check.due("extract 6000", x.length(x.extract(1)), 6000);
        Check.due("extract 16", x.extract(16), -1);
        Check.due("extract -1", x.extract(-1), -1);
        for (int i = 6; i <= 12; i++) {
            x.extract(0);
        }
        Check.due("no number", x.extract(0), -4);
        Check.due("none comes first", x.extract(16), -1);
        Check.due("wipe", x.wipe(), 16);
        Check.due("wipe again", x.wipe(), 0);
        Check.due("none", x.told(0, 0), -1);
        Check.due("no NAME", x.nameAt(0, 0), -1);
        Check.due("no text", x.extract(0), -1);
        Check.due("the NAME at hand stays", x.entry(s, 0, 0), 0);
    }

    private static void unsafe() {
        String[] yes = {"/", "/a", "a\\b", "a:", "..", "../a", "a/..", "a/../b", "../", "a/b/.."};
        String[] no = {"a", "a/b", "a/", ".", "...", "a..", "..a", "a../b", "a/...", "./a", "a//b", "a/..b/c"};
        for (String name : yes) {
            Check.due("UNSAFE " + name, told(name), 1);
        }
        for (String name : no) {
            Check.due("safe " + name, told(name), 0);
        }
    }

    private static int told(String name) {
        PackingHouse x = new PackingHouse();
        put(x, name, new byte[0], 0, 0);
        return x.told(0, 4);
    }

    private static void writeRefusals() {
        PackingHouse x = new PackingHouse();
        Check.due("kind 10", x.write(10, 0), -2);
        Check.due("kind 14", x.write(14, 0), -2);
        Check.due("level 1 of 11", x.write(11, 1), -2);
        Check.due("level 1 of 12", x.write(12, 1), -2);
        Check.due("level 5 of 13", x.write(13, 5), -2);
        Check.due("level -1", x.write(13, -1), -2);
        Check.due("read 10", x.read(10), -2);
        Check.due("read 14", x.read(14), -2);
        for (String name : new String[] {"0123456789abcdef", "a/b", "a b"}) {
            x.wipe();
            put(x, name, new byte[0], 0, 0);
            Check.due("BENCH can not write " + name, x.write(12, 0), -3);
            int s = x.write(11, 0);
            Check.due("TAPE can", s, 1);
            x.drop(s);
        }
        x.wipe();
        put(x, "0123456789abcde", new byte[0], 0, 0);
        Check.due("BENCH can write 15", x.write(12, 0), 1);
        for (int i = 2; i <= 12; i++) {
            x.write(11, 0);
        }
        Check.due("no number", x.write(11, 0), -4);
        x = new PackingHouse();
        int s = Check.longStream(x, 3, 6000);
        for (int i = 0; i < 2; i++) {
            nameOf(x, "n");
            x.entry(s, 0, 0);
        }
        Check.due("too long a TAPE", x.write(11, 0), -4);
        Check.due("too long a BENCH", x.write(12, 0), -4);
        Check.due("too long a BOX", x.write(13, 0), -4);
        Check.due("nothing is made", x.length(2), -1);
        Check.due("by BLOCKS it fits", x.write(13, 1), 2);
    }

    private static byte[] tapeRow(String name, String mode, String size, String time) {
        byte[] row = new byte[512];
        copy(row, 0, name);
        copy(row, 100, mode);
        copy(row, 108, "0000000");
        copy(row, 116, "0000000");
        copy(row, 124, size);
        copy(row, 136, time);
        row[156] = 48;
        copy(row, 257, "ustar\0" + "00");
        return withSum(row);
    }

    private static byte[] withSum(byte[] row) {
        Arrays.fill(row, 148, 156, (byte) 32);
        int sum = 0;
        for (byte b : row) {
            sum += b & 255;
        }
        copy(row, 148, String.format("%06o\0 ", sum));
        return row;
    }

    private static void copy(byte[] row, int at, String text) {
        for (int i = 0; i < text.length(); i++) {
            row[at + i] = (byte) text.charAt(i);
        }
    }

    private static final byte[] TWO_ROWS = new byte[1024];

    private static void tape() {
        PackingHouse x = new PackingHouse();
        Check.due("no ENTRIES", x.write(11, 0), 1);
        Check.due("two rows", Check.stream(x, 1), TWO_ROWS);
        x.drop(1);
        byte[] text = Check.times('x', 513);
        put(x, "dir/name.txt", text, 420, 1234567890);
        put(x, "b", new byte[0], 0, 0);
        Check.due("write", x.write(11, 0), 1);
        byte[] first = tapeRow("dir/name.txt", "0000644", "00000001001", "11145401322");
        byte[] want = Check.octets(first, text, new byte[511],
                tapeRow("b", "0000000", "00000000000", "00000000000"), TWO_ROWS);
        Check.due("TAPE", Check.stream(x, 1), want);
        Check.due("a hundred octets", tapeName("n".repeat(100)), "n".repeat(100));
        x.load(1);
        x.wipe();
        Check.due("read", x.read(11), 2);
        Check.due("whole", x.fault(2), 2);
        Check.due("size", x.told(0, 0), 513);
        Check.due("mode", x.told(0, 1), 420);
        Check.due("time", x.told(0, 2), 1234567890);
        Check.due("text", Check.stream(x, x.extract(0)), text);
        Check.due("one row of 0 is enough", readsTape(Check.octets(first, text, new byte[511], new byte[512])), 1);
        Check.due("what is behind is not looked at",
                readsTape(Check.octets(first, text, new byte[511], new byte[512], "junk")), 1);
        Check.due("32s and a 32", readsTape(Check.octets(
                tapeRow("a", "  1644 7", "          1 ", "1\0" + "zzzzzzzzzz"), "x", new byte[511], TWO_ROWS)), 1);
        x = Check.house(Check.octets(tapeRow("a", "77777777", "000000000001", "17777777777 "), "x", new byte[511],
                TWO_ROWS));
        Check.due("all figures", x.read(11), 1);
        Check.due("the lowest nine bits", x.told(0, 1), 511);
        Check.due("the greatest time", x.told(0, 2), Integer.MAX_VALUE);
        byte[] prefixed = tapeRow("name", "0", "0", "0");
        copy(prefixed, 345, "some/dir");
        x = Check.house(Check.octets(withSum(prefixed), TWO_ROWS));
        x.read(11);
        Check.due("what stands before", nameOf(x, 0), "some/dir/name");
    }

    private static String nameOf(PackingHouse x, int entry) {
        StringBuilder name = new StringBuilder();
        for (int i = 0; x.nameAt(entry, i) >= 0; i++) {
            name.append((char) x.nameAt(entry, i));
        }
        return name.toString();
    }

    private static String tapeName(String name) {
        PackingHouse x = new PackingHouse();
        put(x, name, new byte[0], 0, 0);
        x.load(x.write(11, 0));
        x.wipe();
        x.read(11);
        return nameOf(x, 0);
    }

    private static int readsTape(byte[] tape) {
        return Check.house(tape).read(11);
    }

    private static void readFaults(String what, int kind, byte[] octets, int rule, int place, int whole) {
        PackingHouse x = new PackingHouse();
        put(x, "kept", Check.octets("kept"), 1, 2);
        Check.tray(x, octets);
        Check.due(what + ": read", x.read(kind), -10 - rule);
        Check.due(what + ": RULE", x.fault(0), rule);
        Check.due(what + ": PLACE", x.fault(1), place);
        Check.due(what + ": whole", x.fault(2), whole);
        Check.due(what + ": the ENTRIES stay", nameOf(x, 0), "kept");
        Check.due(what + ": and how many", x.wipe(), 1);
    }

    private static void tapeRules() {
        byte[] good = tapeRow("a", "0000644", "00000000000", "00000000000");
        readFaults("none", 11, new byte[0], 1, 0, 0);
        readFaults("511", 11, new byte[511], 1, 511, 0);
        readFaults("no end", 11, good, 1, 512, 1);
        byte[] row = good.clone();
        copy(row, 148, "        ");
        readFaults("the sum is no figures", 11, Check.octets(good, row, TWO_ROWS), 101, 512, 1);
        row = good.clone();
        row[300]++;
        readFaults("the sum is another one", 11, Check.octets(good, row, TWO_ROWS), 100, 512, 1);
        readFaults("mode", 11, Check.octets(tapeRow("a", "8", "0", "0"), TWO_ROWS), 101, 0, 0);
        readFaults("no mode", 11, Check.octets(tapeRow("a", "", "0", "0"), TWO_ROWS), 101, 0, 0);
        readFaults("size", 11, Check.octets(tapeRow("a", "0", "1x", "0"), TWO_ROWS), 101, 0, 0);
        readFaults("time", 11, Check.octets(tapeRow("a", "0", "0", "            "), TWO_ROWS), 101, 0, 0);
        readFaults("time above", 11, Check.octets(tapeRow("a", "0", "0", "20000000000"), TWO_ROWS), 101, 0, 0);
        row = good.clone();
        row[156] = 53;
        readFaults("octet 156", 11, Check.octets(withSum(row), TWO_ROWS), 102, 0, 0);
        readFaults("no NAME", 11, Check.octets(tapeRow("", "0", "0", "0"), TWO_ROWS), 103, 0, 0);
        row = tapeRow("", "0", "0", "0");
        copy(row, 345, "dir");
        readFaults("no NAME at 0", 11, Check.octets(withSum(row), TWO_ROWS), 103, 0, 0);
        row = tapeRow("n".repeat(50), "0", "0", "0");
        copy(row, 345, "d".repeat(50));
        readFaults("a NAME of 101", 11, Check.octets(withSum(row), TWO_ROWS), 103, 0, 0);
        row[345 + 49] = 0;
        Check.due("a NAME of 100", readsTape(Check.octets(withSum(row), TWO_ROWS)), 1);
        readFaults("size 6001", 11, Check.octets(tapeRow("a", "0", "13561", "0"), TWO_ROWS), 104, 0, 0);
        readFaults("size 6000 lacks", 11, Check.octets(tapeRow("a", "0", "13560", "0"), new byte[5000]), 1, 5512, 0);
        readFaults("the text lacks", 11, Check.octets(good, tapeRow("b", "0", "3", "0"), "ab"), 1, 1026, 1);
        readFaults("what fills up may lack", 11, Check.octets(good, tapeRow("b", "0", "3", "0"), "abc"), 1, 1027, 2);
    }

    private static byte[] benchRow(String name, String time, String mode, String size) {
        return Check.octets(String.format("%-16s%-12s%-6s%-6s%-8s%-10s`\n", name, time, "0", "0", mode, size));
    }

    private static void bench() {
        PackingHouse x = new PackingHouse();
        Check.due("no ENTRIES", x.write(12, 0), 1);
        Check.due("eight octets", Check.stream(x, 1), Check.octets("!<arch>\n"));
        x.load(1);
        Check.due("are fine", x.read(12), 0);
        put(x, "odd", Check.octets("abc"), 420, 1234567890);
        put(x, "fifteen_octets_", Check.octets("ab"), 0, 0);
        x.write(12, 0);
        Check.due("BENCH", Check.stream(x, 2), Check.octets("!<arch>\n", benchRow("odd/", "1234567890", "644", "3"),
                "abc\n", benchRow("fifteen_octets_/", "0", "0", "2"), "ab"));
        x.wipe();
        x.load(2);
        Check.due("read", x.read(12), 2);
        Check.due("name", nameOf(x, 0), "odd");
        Check.due("name", nameOf(x, 1), "fifteen_octets_");
        Check.due("mode", x.told(0, 1), 420);
        Check.due("time", x.told(0, 2), 1234567890);
        Check.due("size", x.told(0, 0), 3);
        byte[] mark = Check.octets("!<arch>\n");
        Check.due("the 10 may lack at the end",
                Check.house(Check.octets(mark, benchRow("a/", "0", "0", "3"), "abc")).read(12), 1);
        Check.due("what it is is not looked at", Check.house(Check.octets(mark, benchRow("a/", "0", "0", "1"), "xZ",
                benchRow("b/", "0", "0", "0"))).read(12), 2);
        byte[] row = benchRow("a/", "0", "100644", "0");
        copy(row, 28, "whatever it ");
        x = Check.house(Check.octets(mark, row));
        Check.due("the two 0s are not looked at", x.read(12), 1);
        Check.due("the lowest nine bits", x.told(0, 1), 420);
    }

    private static void benchRules() {
        byte[] mark = Check.octets("!<arch>\n");
        byte[] good = benchRow("a/", "0", "644", "0");
        readFaults("none", 12, new byte[0], 1, 0, 0);
        readFaults("seven", 12, Check.octets("!<arch>"), 1, 7, 0);
        readFaults("the mark", 12, Check.octets("!<arch>!", good), 110, 0, 0);
        readFaults("fewer than 60", 12, Check.octets(mark, good, "a"), 1, 69, 1);
        byte[] row = good.clone();
        row[59] = 11;
        readFaults("the end of the row", 12, Check.octets(mark, good, row), 111, 68, 1);
        readFaults("time", 12, Check.octets(mark, benchRow("a/", " 1", "0", "0")), 112, 8, 0);
        readFaults("time above", 12, Check.octets(mark, benchRow("a/", "2147483648", "0", "0")), 112, 8, 0);
        readFaults("mode", 12, Check.octets(mark, benchRow("a/", "0", "8", "0")), 112, 8, 0);
        readFaults("no size", 12, Check.octets(mark, benchRow("a/", "0", "0", "")), 112, 8, 0);
        readFaults("size", 12, Check.octets(mark, benchRow("a/", "0", "0", "1 1")), 112, 8, 0);
        readFaults("no NAME", 12, Check.octets(mark, benchRow("/", "0", "0", "0")), 103, 8, 0);
        readFaults("no 47", 12, Check.octets(mark, benchRow("abc", "0", "0", "0")), 103, 8, 0);
        row = good.clone();
        row[0] = 0;
        readFaults("a 0", 12, Check.octets(mark, row), 103, 8, 0);
        readFaults("size 6000", 12, Check.octets(mark, benchRow("a/", "0", "0", "6000")), 1, 68, 0);
        readFaults("size 6001", 12, Check.octets(mark, benchRow("a/", "0", "0", "6001")), 104, 8, 0);
        readFaults("a huge size", 12, Check.octets(mark, benchRow("a/", "0", "0", "9999999999")), 104, 8, 0);
        readFaults("the text lacks", 12, Check.octets(mark, benchRow("a/", "0", "0", "3"), "ab"), 1, 70, 0);
        byte[] many = mark;
        for (int i = 0; i < 16; i++) {
            many = Check.octets(many, good);
        }
        Check.due("sixteen", Check.house(many).read(12), 16);
        readFaults("a seventeenth", 12, Check.octets(many, good), 104, 8 + 16 * 60, 16);
    }

    private static byte[] facts(int method, int time, long round, int standing, int size, int name) {
        return Check.octets(Check.low(method, 2), Check.low(time, 4), Check.low(round, 4), Check.low(standing, 4),
                Check.low(size, 4), Check.low(name, 2));
    }

    private static byte[] head(byte[] facts, String name) {
        return Check.octets(Check.low(0x04034b50L, 4), 20, 0, 0, 0, facts, 0, 0, name);
    }

    private static byte[] row(byte[] facts, String name, int mode, long head) {
        return Check.octets(Check.low(0x02014b50L, 4), 20, 0, 20, 0, 0, 0, facts, new byte[8],
                Check.low((long) mode << 16, 4), Check.low(head, 4), name);
    }

    private static byte[] end(int many, int rows, int begin) {
        return Check.octets(Check.low(0x06054b50L, 4), 0, 0, 0, 0, Check.low(many, 2), Check.low(many, 2),
                Check.low(rows, 4), Check.low(begin, 4), 0, 0);
    }

    private static long round(byte[] text) {
        CRC32 sum = new CRC32();
        sum.update(text);
        return sum.getValue();
    }

    private static void box() throws Exception {
        PackingHouse x = new PackingHouse();
        Check.due("no ENTRIES", x.write(13, 0), 1);
        Check.due("22 octets", Check.stream(x, 1), end(0, 0, 0));
        x.load(1);
        Check.due("are fine", x.read(13), 0);
        byte[] text = Check.times('x', 300);
        put(x, "long/name", text, 420, 1234567890);
        put(x, "ab", Check.octets("abc"), 511, 0);
        x.pack(3, 2);
        int bits = x.bits();
        x.load(x.extract(0));
        x.pack(3, 1);
        byte[] packed = Check.stream(x, 4);
        for (int i = 1; i <= 4; i++) {
            x.drop(i);
        }
        Check.due("write", x.write(13, 1), 1);
        byte[] one = facts(8, 1234567890, round(text), packed.length, 300, 9);
        byte[] two = facts(0, 0, round(Check.octets("abc")), 3, 3, 2);
        byte[] heads = Check.octets(head(one, "long/name"), packed, head(two, "ab"), "abc");
        byte[] rows = Check.octets(row(one, "long/name", 420, 0), row(two, "ab", 511, 39 + packed.length));
        Check.due("BOX", Check.stream(x, 1), Check.octets(heads, rows, end(2, rows.length, heads.length)));
        Check.holds("bits are pack()'s", x.bits() != 0 && bits != 0);
        foreign(Check.stream(x, 1), text);
        for (int level = 0; level <= 4; level++) {
            int s = x.write(13, level);
            x.load(s);
            Check.due("read, level " + level, x.read(13), 2);
            Check.due("whole", x.fault(2), 2);
            Check.due("mode", x.told(1, 1), 511);
            Check.due("time", x.told(0, 2), 1234567890);
            Check.due("name", nameOf(x, 0), "long/name");
            int t = x.extract(0);
            Check.due("text", Check.stream(x, t), text);
            x.drop(s);
            x.drop(t);
        }
    }

    private static void foreign(byte[] box, byte[] text) throws Exception {
        ZipInputStream zip = new ZipInputStream(new ByteArrayInputStream(box));
        ZipEntry entry = zip.getNextEntry();
        Check.due("zip's name", entry.getName(), "long/name");
        Check.due("zip's text", zip.readAllBytes(), text);
        Check.due("zip's next", zip.getNextEntry().getName(), "ab");
        Check.due("zip's next text", zip.readAllBytes(), Check.octets("abc"));
        Check.holds("and no more", zip.getNextEntry() == null);
    }

    private static byte[] boxOf(byte[] facts, byte[] rowFacts, byte[] standing) {
        byte[] heads = Check.octets(head(facts, "n"), standing);
        byte[] rows = row(rowFacts, "n", 420, 0);
        return Check.octets(heads, rows, end(1, rows.length, heads.length));
    }

    private static byte[] with(byte[] octets, int at, int v) {
        byte[] other = octets.clone();
        other[at] = (byte) v;
        return other;
    }

    private static void boxRules() {
        byte[] text = Check.octets("abc");
        byte[] facts = facts(0, 5, round(text), 3, 3, 1);
        byte[] good = boxOf(facts, facts, text);
        int rows = 34;
        int last = 34 + 47;
        Check.due("good", Check.house(good).read(13), 1);
        readFaults("none", 13, new byte[0], 120, 0, 0);
        readFaults("21", 13, Arrays.copyOf(good, 21), 120, 0, 0);
        readFaults("something behind", 13, Check.octets(good, 0), 120, last + 1, 0);
        for (int i : new int[] {0, 4, 6, 8, 20}) {
            readFaults("the last 22 at " + i, 13, with(good, last + i, 7), 120, last, 0);
        }
        readFaults("17", 13, with(with(good, last + 8, 17), last + 10, 17), 104, last, 0);
        readFaults("where rows begin", 13, with(good, last + 16, 33), 121, last, 0);
        readFaults("how many octets", 13, with(good, last + 12, 48), 121, last, 0);
        readFaults("two rows told", 13, with(with(good, last + 8, 2), last + 10, 2), 122, last, 1);
        readFaults("no row told", 13, with(with(good, last + 8, 0), last + 10, 0), 122, rows, 0);
        readFaults("the row's number", 13, with(good, rows, 7), 122, rows, 0);
        readFaults("the row goes beyond", 13, with(good, rows + 28, 2), 122, rows, 0);
        Check.due("the two 20s are not looked at", Check.house(with(with(good, rows + 4, 9), rows + 6, 9)).read(13), 1);
        for (int i : new int[] {8, 10, 30, 32, 34, 36, 38, 41, 15}) {
            readFaults("the row at " + i, 13, with(good, rows + i, 255), 123, rows, 0);
        }
        readFaults("mode 512", 13, with(with(good, rows + 40, 0), rows + 41, 2), 123, rows, 0);
        readFaults("no NAME", 13, with(with(good, rows + 28, 0), 26, 0), 103, rows, 0);
        readFaults("a 0 in the NAME", 13, with(good, rows + 46, 0), 103, rows, 0);
        byte[] big = facts(0, 5, round(text), 3, 6001, 1);
        readFaults("size 6001", 13, boxOf(big, big, text), 104, rows, 0);
        readFaults("the head's number", 13, with(good, 0, 7), 124, 0, 0);
        for (int i : new int[] {4, 6, 8, 10, 14, 18, 22, 26, 28, 30}) {
            readFaults("the head at " + i, 13, with(good, i, 99), 124, 0, 0);
        }
        readFaults("where the head is", 13, with(good, rows + 42, 1), 124, 1, 0);
        readFaults("the head beyond", 13, with(good, rows + 45, 127), 124, 0x7F000000, 0);
        readFaults("the head far beyond", 13, with(good, rows + 45, 128), 124, Integer.MAX_VALUE, 0);
        byte[] two = facts(0, 5, round(text), 2, 3, 1);
        readFaults("two sizes", 13, boxOf(two, two, text), 125, 0, 0);
        byte[] other = facts(0, 5, round(text) + 1, 3, 3, 1);
        readFaults("ROUND", 13, boxOf(other, other, text), 126, 0, 0);
        boxBlocks(text);
        Check.due("sixteen", Check.house(boxes(16)).read(13), 16);
        readFaults("seventeen", 13, boxes(17), 104, boxes(17).length - 22, 0);
    }

    private static byte[] boxes(int many) {
        byte[] heads = new byte[0];
        byte[] rows = new byte[0];
        byte[] none = facts(0, 0, 0, 0, 0, 1);
        for (int i = 0; i < many; i++) {
            rows = Check.octets(rows, row(none, "n", 0, heads.length));
            heads = Check.octets(heads, head(none, "n"));
        }
        return Check.octets(heads, rows, end(many, rows.length, heads.length));
    }

    private static void boxBlocks(byte[] text) {
        byte[] packed = Check.hex("4b4c4a0600");
        byte[] facts = facts(8, 5, round(text), 5, 3, 1);
        Check.due("BLOCKS", Check.house(boxOf(facts, facts, packed)).read(13), 1);
        byte[] left = facts(8, 5, round(text), 6, 3, 1);
        readFaults("it goes on", 13, boxOf(left, left, Check.octets(packed, 0)), 14, 36, 0);
        byte[] lack = facts(8, 5, round(text), 4, 3, 1);
        readFaults("it ends before", 13, boxOf(lack, lack, Arrays.copyOf(packed, 4)), 1, 35, 0);
        readFaults("type 3", 13, boxOf(facts, facts, with(packed, 0, 7)), 2, 31, 0);
        byte[] size = facts(8, 5, round(text), 5, 4, 1);
        readFaults("another size", 13, boxOf(size, size, packed), 126, 0, 0);
        byte[] round = facts(8, 5, 7, 5, 3, 1);
        readFaults("another ROUND", 13, boxOf(round, round, packed), 126, 0, 0);
        // one literal and 46 matches of 258, then one more of them: 12127
        BitRow bits = BitRow.low().number(1, 1).number(1, 2).code("00110000");
        for (int i = 0; i < 47; i++) {
            bits.code("11000101").code("00000");
        }
        int place = (bits.size() - 1) / 8;
        byte[] octets = bits.code("0000000").octets();
        byte[] many = facts(8, 5, 0, octets.length, 6000, 1);
        readFaults("12001", 13, boxOf(many, many, octets), 13, 31 + place, 0);
    }
}

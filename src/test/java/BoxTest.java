import java.io.ByteArrayInputStream;
import java.util.Arrays;
import java.util.zip.ZipEntry;
import java.util.zip.ZipInputStream;

/** Promises 20 and 21 by BOX. */
public final class BoxTest {
    private static final byte[] TEXT = Check.octets("abc");
    private static final byte[] FACTS = Forms.facts(0, 5, Forms.round(TEXT), 3, 3, 1);
    private static final byte[] GOOD = Forms.boxOf(FACTS, FACTS, TEXT);
    /** Where the row and the last 22 of it begin. */
    private static final int ROW = 34;
    private static final int LAST = 34 + 47;

    public static void main(String[] args) throws Exception {
        write();
        methods();
        foreign();
        last();
        tooMany();
        together();
        rowMarks();
        rowFacts();
        names();
        sizes();
        heads();
        farHeads();
        twoSizes();
        blocks();
        texts();
        behindRows();
        Check.end("BoxTest");
    }

    private static void write() {
        Check.says("for each ENTRY a head: 0x04034b50 (4 octets), 20 (2), 0 (2), method 0 or 8 (2), time (4), "
                + "ROUND (4), size as it stands (4), size (4), how long the NAME is (2), 0 (2), NAME; then the "
                + "text as it is, or (method 8) in BLOCKS");
        PackingHouse x = new PackingHouse();
        Forms.put(x, "n", TEXT, 420, 5);
        Check.due("one", Check.stream(x, x.write(13, 0)), GOOD);
        x = new PackingHouse();
        Forms.put(x, "n".repeat(100), Forms.NONE, 511, Integer.MAX_VALUE);
        byte[] none = Forms.facts(0, Integer.MAX_VALUE, 0, 0, 0, 100);
        byte[] head = Forms.head(none, "n".repeat(100));
        byte[] row = Forms.row(none, "n".repeat(100), 511, 0);
        Check.due("an empty text", Check.stream(x, x.write(13, 1)),
                Check.octets(head, row, Forms.last(1, row.length, head.length)));
        Check.says("then for each a row: 0x02014b50 (4), 20, 20, 0, method (2 each), time, ROUND, the two sizes "
                + "(4 each), how long the NAME is (2), 0, 0, 0, 0 (2 each), mode * 65536 (4), where its head is "
                + "(4), NAME; then the last 22: 0x06054b50 (4), 0 (2), 0 (2), how many (2), how many (2), how "
                + "many octets the rows have (4), where they begin (4), 0 (2).");
        x = new PackingHouse();
        Check.due("no ENTRIES", Check.stream(x, x.write(13, 0)), Forms.last(0, 0, 0));
        byte[] text = Check.times('x', 300);
        Forms.put(x, "long/name", text, 420, 1234567890);
        Forms.put(x, "ab", TEXT, 511, 0);
        PackingHouse y = Check.house(text);
        byte[] packed = Check.stream(y, y.pack(3, 1));
        byte[] one = Forms.facts(8, 1234567890, Forms.round(text), packed.length, 300, 9);
        byte[] two = Forms.facts(0, 0, Forms.round(TEXT), 3, 3, 2);
        byte[] heads = Check.octets(Forms.head(one, "long/name"), packed, Forms.head(two, "ab"), TEXT);
        byte[] rows = Check.octets(Forms.row(one, "long/name", 420, 0), Forms.row(two, "ab", 511, 39 + packed.length));
        Check.due("two", Check.stream(x, x.write(13, 1)), Check.octets(heads, rows,
                Forms.last(2, rows.length, heads.length)));
        for (int level = 0; level <= 4; level++) {
            int s = x.write(13, level);
            x.load(s);
            Check.due("read, level " + level, x.read(13), 2);
            Check.due("mode", x.told(1, 1), 511);
            Check.due("time", x.told(0, 2), 1234567890);
            Check.due("name", Forms.nameOf(x, 0), "long/name");
            int t = x.extract(0);
            Check.due("text", Check.stream(x, t), text);
            x.drop(s);
            x.drop(t);
        }
    }

    private static int methodOf(byte[] text, int level) {
        PackingHouse x = new PackingHouse();
        Forms.put(x, "n", text, 0, 0);
        int s = x.write(13, level);
        return x.at(s, 8);
    }

    private static void methods() {
        Check.says("WRITING: method 8 with a level of BLOCKS if that is shorter, else 0.");
        Check.due("an empty text", methodOf(Forms.NONE, 1), 0);
        Check.due("STORED is never shorter", methodOf(Check.times('a', 1000), 0), 0);
        // FIXED: 3 and 8 and 12 and 7 bits are 4 octets for four alike, and for five
        Check.due("as many", methodOf(Check.times('a', 4), 1), 0);
        Check.due("one less", methodOf(Check.times('a', 5), 1), 8);
        for (int level = 1; level <= 4; level++) {
            int both = 0;
            for (int n = 0; n < 60; n++) {
                byte[] text = Check.octets(Forms.ramp(65, n % 7), Check.times('a', n));
                PackingHouse x = Check.house(text);
                int size = x.length(x.pack(3, level));
                both |= size < text.length ? 1 : size == text.length ? 2 : 4;
                Check.due("level " + level + " of " + text.length, methodOf(text, level), size < text.length ? 8 : 0);
            }
            Check.holds("shorter and longer ones", (both & 5) == 5);
        }
    }

    private static void foreign() throws Exception {
        Check.says("KIND 13, BOX (numbers LOW FIRST)");
        PackingHouse x = new PackingHouse();
        byte[] text = Check.times('x', 300);
        Forms.put(x, "long/name", text, 420, 1234567890);
        Forms.put(x, "ab", TEXT, 511, 0);
        ZipInputStream zip = new ZipInputStream(new ByteArrayInputStream(Check.stream(x, x.write(13, 2))));
        ZipEntry entry = zip.getNextEntry();
        Check.due("zip's name", entry.getName(), "long/name");
        Check.due("zip's text", zip.readAllBytes(), text);
        Check.due("zip's next", zip.getNextEntry().getName(), "ab");
        Check.due("zip's next text", zip.readAllBytes(), TEXT);
        Check.holds("and no more", zip.getNextEntry() == null);
    }

    private static void faults(String what, byte[] octets, int rule, int place, int whole) {
        Forms.readFaults(what, 13, octets, rule, place, whole);
    }

    private static byte[] with(int at, int v) {
        return Forms.with(GOOD, at, v);
    }

    private static void last() {
        Check.says("READING: RULES: 120 there are not 22 octets, or the last 22 have not that number, or one of "
                + "their 0s is none, or the two how many differ (PLACE: where the last 22 begin, 0 if there are "
                + "not so many; likewise for the next two)");
        Forms.reads("good", 13, GOOD, 1);
        Forms.reads("22", 13, Forms.last(0, 0, 0), 0);
        faults("none", Forms.NONE, 120, 0, 0);
        faults("21", Arrays.copyOfRange(Forms.last(0, 0, 0), 0, 21), 120, 0, 0);
        faults("the last 21", Arrays.copyOfRange(Forms.last(0, 0, 0), 1, 22), 120, 0, 0);
        faults("something behind", Check.octets(GOOD, 0), 120, LAST + 1, 0);
        for (int i : new int[] {0, 1, 2, 3, 4, 5, 6, 7, 20, 21}) {
            faults("the last 22 at " + i, with(LAST + i, 7), 120, LAST, 0);
        }
        for (int i : new int[] {8, 9, 10, 11}) {
            faults("how many at " + i, with(LAST + i, 7), 120, LAST, 0);
        }
    }

    /** A BOX of so many ENTRIES without a text. */
    private static byte[] boxes(int many) {
        byte[] heads = Forms.NONE;
        byte[] rows = Forms.NONE;
        byte[] none = Forms.facts(0, 0, 0, 0, 0, 1);
        for (int i = 0; i < many; i++) {
            rows = Check.octets(rows, Forms.row(none, "n", 0, heads.length));
            heads = Check.octets(heads, Forms.head(none, "n"));
        }
        return Check.octets(heads, rows, Forms.last(many, rows.length, heads.length));
    }

    private static void tooMany() {
        Check.says("104 more than 16");
        Forms.reads("sixteen", 13, boxes(16), 16);
        faults("seventeen", boxes(17), 104, boxes(17).length - 22, 0);
        faults("17 of one", Forms.with(with(LAST + 8, 17), LAST + 10, 17), 104, LAST, 0);
        faults("16 of one", Forms.with(with(LAST + 8, 16), LAST + 10, 16), 122, LAST, 1);
        faults("256 of one", Forms.with(with(LAST + 9, 1), LAST + 11, 1), 104, LAST, 0);
        faults("65535", Check.octets(Arrays.copyOf(Forms.last(65535, 0, 0), 22)), 104, 0, 0);
        faults("104 comes before 121", Forms.last(17, 1, 1), 104, 0, 0);
    }

    private static void together() {
        Check.says("121 where the rows begin and how many octets they have are not together where the last 22 "
                + "begin.");
        faults("one before", with(LAST + 16, 33), 121, LAST, 0);
        faults("one behind", with(LAST + 16, 35), 121, LAST, 0);
        faults("one octet less", with(LAST + 12, 46), 121, LAST, 0);
        faults("one octet more", with(LAST + 12, 48), 121, LAST, 0);
        for (int i = 13; i < 20; i++) {
            if (i != 16) {
                faults("more by octet " + i, with(LAST + i, 128), 121, LAST, 0);
            }
        }
        faults("both 2^31 more", Forms.with(with(LAST + 15, 128), LAST + 19, 128), 121, LAST, 0);
        byte[] far = Check.octets(Arrays.copyOf(GOOD, LAST), Forms.last(1, 0xFFFFFFFFL, LAST + 1));
        faults("together 2^32 more", far, 121, LAST, 0);
        faults("no ENTRIES, but octets", Check.octets("x", Forms.last(0, 0, 0)), 121, 1, 0);
        Forms.reads("no ENTRIES, and octets before the rows", 13, Check.octets("x", Forms.last(0, 0, 1)), 0);
    }

    private static void rowMarks() {
        Check.says("Then row by row, each with its head: 122 not that number, or it goes beyond the last 22");
        for (int i = 0; i < 4; i++) {
            faults("its number at " + i, with(ROW + i, 7), 122, ROW, 0);
        }
        faults("its NAME goes beyond", with(ROW + 28, 2), 122, ROW, 0);
        faults("its NAME of 256", Forms.with(with(ROW + 28, 0), ROW + 29, 1), 122, ROW, 0);
        faults("its NAME of 65535", Forms.with(with(ROW + 28, 255), ROW + 29, 255), 122, ROW, 0);
        // two rows are told, but there is one
        faults("the row is to begin in the last 22", Forms.with(with(LAST + 8, 2), LAST + 10, 2), 122, LAST, 1);
        // a row of 45 octets before the last 22
        byte[] row = Arrays.copyOf(Forms.row(FACTS, "", 420, 0), 45);
        byte[] head = Check.octets(Forms.head(FACTS, "n"), TEXT);
        faults("45 octets", Check.octets(head, row, Forms.last(1, 45, 34)), 122, 34, 0);
        row = Forms.row(Forms.facts(0, 5, Forms.round(TEXT), 3, 3, 0), "", 420, 0);
        faults("46 octets, and no NAME", Check.octets(head, row, Forms.last(1, 46, 34)), 103, 34, 0);
        byte[] good = boxes(2);
        faults("the second row", Forms.with(good, 62 + 47, 7), 122, 62 + 47, 1);
    }

    private static void rowFacts() {
        Check.says("123 a method that is neither, the third or one of the four 0s is none, the lower half of the "
                + "4 octets with the mode is not 0 or the higher one above 511, or the time is above 2^31 - 1");
        for (int method : new int[] {1, 7, 9, 255}) {
            faults("method " + method, with(ROW + 10, method), 123, ROW, 0);
        }
        faults("method 256", with(ROW + 11, 1), 123, ROW, 0);
        faults("method 264", Forms.with(with(ROW + 10, 8), ROW + 11, 1), 123, ROW, 0);
        for (int i : new int[] {8, 9, 30, 31, 32, 33, 34, 35, 36, 37, 38, 39}) {
            faults("the row at " + i, with(ROW + i, 1), 123, ROW, 0);
        }
        PackingHouse x = Forms.reads("mode 511", 13, Forms.with(with(ROW + 40, 255), ROW + 41, 1), 1);
        Check.due("it is", x.told(0, 1), 511);
        faults("mode 512", Forms.with(with(ROW + 40, 0), ROW + 41, 2), 123, ROW, 0);
        faults("mode 65535", Forms.with(with(ROW + 40, 255), ROW + 41, 255), 123, ROW, 0);
        byte[] late = Forms.facts(0, Integer.MAX_VALUE, Forms.round(TEXT), 3, 3, 1);
        x = Forms.reads("2^31 - 1", 13, Forms.boxOf(late, late, TEXT), 1);
        Check.due("it is", x.told(0, 2), Integer.MAX_VALUE);
        byte[] later = Forms.facts(0, Integer.MIN_VALUE, Forms.round(TEXT), 3, 3, 1);
        faults("2^31", Forms.boxOf(later, later, TEXT), 123, ROW, 0);
        for (int at = 4; at < 8; at++) {
            Forms.reads("the two 20s are not looked at", 13, with(ROW + at, 9), 1);
        }
        faults("123 comes before 103", Forms.with(with(ROW + 10, 1), ROW + 46, 0), 123, ROW, 0);
    }

    private static byte[] named(String name) {
        byte[] facts = Forms.facts(0, 5, Forms.round(TEXT), 3, 3, name.length());
        return Forms.boxOf(facts, facts, name, TEXT);
    }

    private static void names() {
        Check.says("103 how long is 0 or above 100, or an octet of the NAME is 0");
        faults("0", named(""), 103, 33, 0);
        Forms.reads("1", 13, named("n"), 1);
        PackingHouse x = Forms.reads("100", 13, named("n".repeat(100)), 1);
        Check.due("its NAME", Forms.nameOf(x, 0), "n".repeat(100));
        faults("101", named("n".repeat(101)), 103, 134, 0);
        faults("300", named("n".repeat(300)), 103, 333, 0);
        faults("a 0", named("\0"), 103, 34, 0);
        faults("a 0 first", named("\0n"), 103, 35, 0);
        faults("a 0 last", named("n\0"), 103, 35, 0);
        byte[] big = Forms.facts(0, 5, Forms.round(TEXT), 3, 6001, 0);
        faults("103 comes before 104", Forms.boxOf(big, big, "", TEXT), 103, 33, 0);
    }

    private static void sizes() {
        Check.says("104 the size is above 6000");
        byte[] most = Forms.facts(0, 5, Forms.round(TEXT), 3, 6000, 1);
        faults("6000", Forms.boxOf(most, most, TEXT), 125, 0, 0);
        for (long size : new long[] {6001, 65536 + 3, 1L << 31, 0xFFFFFFFFL}) {
            byte[] more = Forms.facts(0, 5, Forms.round(TEXT), 3, size, 1);
            faults("size " + size, Forms.boxOf(more, more, TEXT), 104, ROW, 0);
        }
        byte[] text = Check.times('t', 5900 - 30 - 1);
        byte[] facts = Forms.facts(0, 5, Forms.round(text), text.length, text.length, 1);
        PackingHouse x = Forms.reads("a long one", 13, Forms.boxOf(facts, facts, text), 1);
        Check.due("its size", x.told(0, 0), text.length);
        // 6000 come by BLOCKS
        text = Check.times('t', 6000);
        byte[] packed = Forms.fixedTimes('t', 6000).code(Forms.fixed(256)).octets();
        facts = Forms.facts(8, 5, Forms.round(text), packed.length, 6000, 1);
        x = Forms.reads("6000 by BLOCKS", 13, Forms.boxOf(facts, facts, packed), 1);
        Check.due("its size", x.told(0, 0), 6000);
        facts = Forms.facts(8, 5, Forms.round(text), packed.length, 6001, 1);
        faults("6001 by BLOCKS", Forms.boxOf(facts, facts, packed), 104, 31 + packed.length, 0);
    }

    private static void heads() {
        Check.says("124 (PLACE: where the head is told to be, 2^31 - 1 if that is more) the head, or what stands "
                + "behind it, goes beyond where the rows begin, or the head is not its number, 20, 0, method, "
                + "time, ROUND, both sizes, how long, 0, NAME, as told in the row");
        for (int i = 0; i <= 30; i++) {
            faults("the head at " + i, with(i, 99), 124, 0, 0);
        }
        faults("where the head is", with(ROW + 42, 1), 124, 1, 0);
        // one octet before the head: it is told to be at 1
        byte[] heads = Check.octets("x", Forms.head(FACTS, "n"), TEXT);
        byte[] rows = Forms.row(FACTS, "n", 420, 1);
        Forms.reads("behind another octet", 13, Check.octets(heads, rows, Forms.last(1, 47, 35)), 1);
        // what stands goes just up to the rows, and one further
        byte[] more = Forms.facts(0, 5, Forms.round(Check.octets(TEXT, "P")), 4, 4, 1);
        faults("one too long", Forms.boxOf(more, more, TEXT), 124, 0, 0);
        byte[] left = Check.octets(Forms.head(FACTS, "n"), TEXT, "rest");
        rows = Forms.row(FACTS, "n", 420, 0);
        Forms.reads("something between", 13, Check.octets(left, rows, Forms.last(1, 47, 38)), 1);
        // two rows with the same head
        byte[] head = Check.octets(Forms.head(FACTS, "n"), TEXT);
        rows = Check.octets(Forms.row(FACTS, "n", 1, 0), Forms.row(FACTS, "n", 2, 0));
        PackingHouse x = Forms.reads("the same head twice", 13, Check.octets(head, rows, Forms.last(2, 94, 34)), 2);
        Check.due("its mode", x.told(1, 1), 2);
        Check.due("its text", Check.stream(x, x.extract(1)), TEXT);
        byte[] two = Check.octets(Forms.row(FACTS, "n", 1, 0), Forms.row(FACTS, "m", 2, 0));
        faults("another NAME", Check.octets(head, two, Forms.last(2, 94, 34)), 124, 0, 1);
    }

    private static void farHeads() {
        Check.says("2^31 - 1 if that is more");
        faults("at the rows", with(ROW + 42, ROW), 124, ROW, 0);
        faults("so far that its NAME goes beyond", with(ROW + 42, 4), 124, 4, 0);
        faults("2^31 - 2^24", with(ROW + 45, 127), 124, 0x7F000000, 0);
        byte[] far = GOOD.clone();
        Arrays.fill(far, ROW + 42, ROW + 46, (byte) 255);
        faults("2^32 - 1", far, 124, Integer.MAX_VALUE, 0);
        far[ROW + 45] = 127;
        faults("2^31 - 1", far, 124, Integer.MAX_VALUE, 0);
        faults("2^31", with(ROW + 45, 128), 124, Integer.MAX_VALUE, 0);
        for (long standing : new long[] {4, 3 + (1L << 8), 3 + (1L << 16), 3 + (1L << 24), 3 + (1L << 31), 0xFFFFFFFFL}) {
            for (int method : new int[] {0, 8}) {
                byte[] wide = Forms.facts(method, 5, Forms.round(TEXT), standing, 3, 1);
                faults(standing + " stand behind it", Forms.boxOf(wide, wide, TEXT), 124, 0, 0);
            }
        }
    }

    private static void twoSizes() {
        Check.says("125 method 0 with two sizes (PLACE: the head)");
        byte[] less = Forms.facts(0, 5, Forms.round(TEXT), 2, 3, 1);
        faults("2 and 3", Forms.boxOf(less, less, TEXT), 125, 0, 0);
        byte[] more = Forms.facts(0, 5, Forms.round(TEXT), 3, 2, 1);
        faults("3 and 2", Forms.boxOf(more, more, TEXT), 125, 0, 0);
        byte[] heads = Check.octets("xy", Forms.head(less, "n"), TEXT);
        byte[] rows = Forms.row(less, "n", 420, 2);
        faults("PLACE", Check.octets(heads, rows, Forms.last(1, 47, 36)), 125, 2, 0);
    }

    private static void blocks() {
        Check.says("the RULES of BLOCKS with PLACES in the TRAY (1: where what stands ends; 14: it goes on behind "
                + "the last block)");
        byte[] packed = Check.hex("4b4c4a0600");
        byte[] facts = Forms.facts(8, 5, Forms.round(TEXT), 5, 3, 1);
        PackingHouse x = Forms.reads("BLOCKS", 13, Forms.boxOf(facts, facts, packed), 1);
        Check.due("its text", Check.stream(x, x.extract(0)), TEXT);
        byte[] two = Check.octets(Forms.head(facts, "n"), packed, Forms.head(facts, "n"), packed);
        byte[] rows = Check.octets(Forms.row(facts, "n", 1, 0), Forms.row(facts, "n", 1, 36));
        x = Forms.reads("two of them", 13, Check.octets(two, rows, Forms.last(2, 94, 72)), 2);
        Check.due("the text of the first", Check.stream(x, x.extract(0)), TEXT);
        Check.due("the text of the second", Check.stream(x, x.extract(1)), TEXT);
        byte[] left = Forms.facts(8, 5, Forms.round(TEXT), 6, 3, 1);
        faults("it goes on", Forms.boxOf(left, left, Check.octets(packed, 0)), 14, 36, 0);
        byte[] lack = Forms.facts(8, 5, Forms.round(TEXT), 4, 3, 1);
        faults("it ends before", Forms.boxOf(lack, lack, Arrays.copyOf(packed, 4)), 1, 35, 0);
        faults("it ends before, and something is between", Forms.boxOf(lack, lack, packed), 1, 35, 0);
        byte[] none = Forms.facts(8, 5, Forms.round(TEXT), 0, 3, 1);
        faults("none stands", Forms.boxOf(none, none, Forms.NONE), 1, 31, 0);
        faults("type 3", Forms.boxOf(facts, facts, Forms.with(packed, 0, 7)), 2, 31, 0);
        BitRow far = Forms.fixedRow().code(Forms.fixed(257)).code(Forms.five(0)).number(0, 9);
        byte[] some = Forms.facts(8, 5, 0, far.octets().length, 3, 1);
        faults("12", Forms.boxOf(some, some, far.octets()), 12, 31 + 1, 0);
        // 12001 octets
        BitRow bits = Forms.fixedTimes('t', 11800).code(Forms.fixed(284)).number(0, 5).code(Forms.five(0));
        int place = bits.place();
        byte[] octets = bits.code(Forms.fixed(256)).octets();
        byte[] many = Forms.facts(8, 5, 0, octets.length, 6000, 1);
        faults("12001", Forms.boxOf(many, many, octets), 13, 31 + place, 0);
        octets = Forms.fixedTimes('t', 12000).code(Forms.fixed(256)).octets();
        many = Forms.facts(8, 5, 0, octets.length, 6000, 1);
        faults("12000", Forms.boxOf(many, many, octets), 126, 0, 0);
    }

    private static void texts() {
        Check.says("126 the text has another size, or ROUND (PLACE: the head).");
        byte[] packed = Check.hex("4b4c4a0600");
        for (int size : new int[] {0, 2, 4, 6000}) {
            byte[] facts = Forms.facts(8, 5, Forms.round(TEXT), 5, size, 1);
            faults("size " + size, Forms.boxOf(facts, facts, packed), 126, 0, 0);
        }
        // another size, with the ROUND of so many octets
        byte[] longer = Forms.facts(8, 5, Forms.round(Check.octets(TEXT, 0)), 5, 4, 1);
        faults("one more, a 0", Forms.boxOf(longer, longer, packed), 126, 0, 0);
        byte[] shorter = Forms.facts(8, 5, Forms.round(Check.octets("ab")), 5, 2, 1);
        faults("one less", Forms.boxOf(shorter, shorter, packed), 126, 0, 0);
        byte[] round = Forms.facts(8, 5, Forms.round(TEXT) ^ 1, 5, 3, 1);
        faults("ROUND of BLOCKS", Forms.boxOf(round, round, packed), 126, 0, 0);
        byte[] other = Forms.facts(0, 5, Forms.round(TEXT) ^ 1L << 31, 3, 3, 1);
        faults("ROUND of what is as it is", Forms.boxOf(other, other, TEXT), 126, 0, 0);
        byte[] heads = Check.octets("xy", Forms.head(other, "n"), TEXT);
        byte[] rows = Forms.row(other, "n", 420, 2);
        faults("PLACE", Check.octets(heads, rows, Forms.last(1, 47, 36)), 126, 2, 0);
        byte[] second = Check.octets(Forms.head(FACTS, "n"), TEXT, Forms.head(other, "n"), TEXT);
        rows = Check.octets(Forms.row(FACTS, "n", 420, 0), Forms.row(other, "n", 420, 34));
        faults("the second", Check.octets(second, rows, Forms.last(2, 94, 68)), 126, 34, 1);
    }

    private static void behindRows() {
        Check.says("Behind the rows: 122 they end before the last 22.");
        faults("no row is told", Forms.with(with(LAST + 8, 0), LAST + 10, 0), 122, ROW, 0);
        byte[] heads = Check.octets(Forms.head(FACTS, "n"), TEXT);
        byte[] rows = Check.octets(Forms.row(FACTS, "n", 420, 0), "x");
        faults("one octet", Check.octets(heads, rows, Forms.last(1, 48, 34)), 122, LAST, 1);
        Forms.reads("none", 13, GOOD, 1);
    }
}

import java.util.Arrays;

/** Promises 20 and 21 by BENCH. */
public final class BenchTest {
    private static final byte[] MARK = Forms.BENCH_MARK;
    private static final byte[] GOOD = Forms.benchRow("a/", "0", "644", "0");

    public static void main(String[] args) {
        write();
        oddSizes();
        names();
        figures();
        readNames();
        notLookedAt();
        marks();
        rows();
        noFigures();
        noNames();
        tooMany();
        texts();
        Check.end("BenchTest");
    }

    private static byte[] bench(Object... parts) {
        return Check.octets(MARK, Check.octets(parts));
    }

    private static byte[] written(String name, byte[] text, int mode, int time) {
        PackingHouse x = new PackingHouse();
        Forms.put(x, name, text, mode, time);
        return Check.stream(x, x.write(12, 0));
    }

    private static void write() {
        Check.says("KIND 12, BENCH: \"!<arch>\" and 10; for each ENTRY 60 octets: NAME with 47 behind (16), time "
                + "in tens (12), \"0\" (6), \"0\" (6), mode in eights (8), size in tens (10), all filled with 32; "
                + "96, 10");
        PackingHouse x = new PackingHouse();
        Check.due("no ENTRIES", Check.stream(x, x.write(12, 0)), MARK);
        Check.due("the least", written("a", Forms.NONE, 0, 0), bench(Forms.benchRow("a/", "0", "0", "0")));
        Check.due("the greatest", written("fifteen_octets_", Check.times('x', 1000), 511, Integer.MAX_VALUE),
                bench(Forms.benchRow("fifteen_octets_/", "2147483647", "777", "1000"), Check.times('x', 1000)));
        Check.due("tens", written("a", Check.times('x', 10), 8, 10),
                bench(Forms.benchRow("a/", "10", "10", "10"), Check.times('x', 10)));
        Check.due("one less than tens", written("a", Check.times('x', 8), 7, 9),
                bench(Forms.benchRow("a/", "9", "7", "8"), Check.times('x', 8)));
    }

    private static void oddSizes() {
        Check.says("the text, and a 10 when its size is odd.");
        for (int n : new int[] {0, 1, 2, 3, 999}) {
            byte[] text = Check.times('x', n);
            byte[] want = bench(Forms.benchRow("a/", "0", "0", "" + n), text);
            Check.due("size " + n, written("a", text, 0, 0), n % 2 == 0 ? want : Check.octets(want, 10));
        }
        PackingHouse x = new PackingHouse();
        Forms.put(x, "odd", Check.octets("abc"), 420, 1234567890);
        Forms.put(x, "even", Check.octets("ab"), 0, 0);
        Check.due("two of them", Check.stream(x, x.write(12, 0)), bench(
                Forms.benchRow("odd/", "1234567890", "644", "3"), "abc\n", Forms.benchRow("even/", "0", "0", "2"), "ab"));
    }

    private static void names() {
        Check.says("(A NAME of more than 15 octets, or with 47 or 32 in it, can not be written.)");
        for (String name : new String[] {"n".repeat(16), "n".repeat(100), "/", "a/", "/a", " ", "a ", " a", "a b"}) {
            PackingHouse x = new PackingHouse();
            Forms.put(x, name, Forms.NONE, 0, 0);
            Check.due("NAME " + name, x.write(12, 0), -3);
            Check.due("no STREAM", x.length(1), -1);
        }
        for (String name : new String[] {"n", "n".repeat(15), "\\", "a:b", "..", "\u00FF", "\n", "`"}) {
            PackingHouse x = new PackingHouse();
            Forms.put(x, name, Forms.NONE, 0, 0);
            x.load(x.write(12, 0));
            x.wipe();
            Check.due("NAME " + name, x.read(12), 1);
            Check.due("it comes back", Forms.nameOf(x, 0), name);
        }
    }

    private static void figures() {
        Check.says("READING: figures: one or more, then 32s up to the end");
        PackingHouse x = Forms.reads("all of them", 12, bench(Forms.benchRow("a/", "000000000007", "00000644",
                "0000000001"), "x"), 1);
        Check.due("time", x.told(0, 2), 7);
        Check.due("mode", x.told(0, 1), 0644);
        x = Forms.reads("one", 12, bench(Forms.benchRow("a/", "9", "7", "0")), 1);
        Check.due("time", x.told(0, 2), 9);
        Check.says("(The mode as in TAPE.)");
        x = Forms.reads("100644", 12, bench(Forms.benchRow("a/", "0", "100644", "0")), 1);
        Check.due("the lowest nine bits", x.told(0, 1), 0644);
        x = Forms.reads("77777777", 12, bench(Forms.benchRow("a/", "0", "77777777", "0")), 1);
        Check.due("the lowest nine bits", x.told(0, 1), 511);
        x = Forms.reads("1000", 12, bench(Forms.benchRow("a/", "0", "1000", "0")), 1);
        Check.due("the lowest nine bits", x.told(0, 1), 0);
    }

    private static void readNames() {
        Check.says("the NAME ends before the first 47");
        for (String name : new String[] {"a/", "ab/c/d", "fifteen_octets_/", "a b/", " /", "a/\0"}) {
            PackingHouse x = Forms.reads("NAME " + name, 12, bench(Forms.benchRow(name, "0", "0", "0")), 1);
            Check.due("it is", Forms.nameOf(x, 0), name.substring(0, name.indexOf('/')));
        }
    }

    private static void notLookedAt() {
        Check.says("the two \"0\" are not looked at, nor is what the 10 behind an odd size is (it may lack at the "
                + "end). Ends with the octets.");
        byte[] row = GOOD.clone();
        Forms.copy(row, 28, "whatever it ");
        Forms.reads("the two 0s", 12, bench(row), 1);
        Forms.copy(row, 28, "\0\0\0\0\0\0\0\0\0\0\0\0");
        Forms.reads("the two 0s as 0", 12, bench(row), 1);
        byte[] one = Forms.benchRow("o/", "0", "0", "1");
        Forms.reads("it lacks", 12, bench(one, "x"), 1);
        Forms.reads("it is there", 12, bench(one, "x\n"), 1);
        Forms.reads("it is another", 12, bench(one, "xZ"), 1);
        PackingHouse x = Forms.reads("between", 12, bench(one, "xZ", GOOD), 2);
        Check.due("the second", Forms.nameOf(x, 1), "a");
        Forms.readFaults("it lacks between", 12, bench(one, "x", GOOD), 1, 8 + 60 + 1 + 60, 1);
        Forms.readFaults("two octets at the end", 12, bench(one, "x\n\n"), 1, 71, 1);
        Forms.readFaults("one octet behind an even size", 12, bench(GOOD, "\n"), 1, 69, 1);
    }

    private static void marks() {
        Check.says("RULES: 1 fewer than 8; 110 these 8 (PLACE 0)");
        for (int n = 0; n < 8; n++) {
            Forms.readFaults(n + " octets", 12, Arrays.copyOf(MARK, n), 1, n, 0);
        }
        Forms.reads("8", 12, MARK, 0);
        Forms.readFaults("7 others", 12, Check.times('x', 7), 1, 7, 0);
        for (int i = 0; i < 8; i++) {
            Forms.readFaults("octet " + i, 12, Check.octets(Forms.with(MARK, i, MARK[i] + 1), GOOD), 110, 0, 0);
        }
    }

    private static void rows() {
        Check.says("1 fewer than 60; 111 not 96, 10");
        Forms.readFaults("one", 12, bench("a"), 1, 9, 0);
        Forms.readFaults("59", 12, bench(Arrays.copyOf(GOOD, 59)), 1, 67, 0);
        Forms.reads("60", 12, bench(GOOD), 1);
        Forms.readFaults("61", 12, bench(GOOD, "a"), 1, 69, 1);
        for (int at = 58; at < 60; at++) {
            Forms.readFaults("octet " + at, 12, bench(GOOD, Forms.with(GOOD, at, GOOD[at] + 1)), 111, 68, 1);
        }
        byte[] row = Forms.benchRow("a/", "x", "0", "0");
        Forms.readFaults("111 comes before 112", 12, bench(Forms.with(row, 58, 0)), 111, 8, 0);
    }

    private static void noFigures() {
        Check.says("112 no figures, or a time above 2^31 - 1");
        for (String wrong : new String[] {"", " 1", "x", "1x", "1 1", "-1", "+1", "\0", "1\0", "0x1", "/", "1/", ":", "1:"}) {
            Forms.readFaults("time " + wrong, 12, bench(Forms.benchRow("a/", wrong, "0", "0")), 112, 8, 0);
            Forms.readFaults("mode " + wrong, 12, bench(Forms.benchRow("a/", "0", wrong, "0")), 112, 8, 0);
            Forms.readFaults("size " + wrong, 12, bench(Forms.benchRow("a/", "0", "0", wrong)), 112, 8, 0);
        }
        Forms.readFaults("mode 8", 12, bench(Forms.benchRow("a/", "0", "8", "0")), 112, 8, 0);
        Forms.readFaults("mode 78", 12, bench(Forms.benchRow("a/", "0", "78", "0")), 112, 8, 0);
        PackingHouse x = Forms.reads("2^31 - 1", 12, bench(Forms.benchRow("a/", "2147483647", "0", "0")), 1);
        Check.due("time", x.told(0, 2), Integer.MAX_VALUE);
        Forms.readFaults("2^31", 12, bench(Forms.benchRow("a/", "2147483648", "0", "0")), 112, 8, 0);
        Forms.readFaults("10^12 - 1", 12, bench(Forms.benchRow("a/", "999999999999", "0", "0")), 112, 8, 0);
        Forms.readFaults("2^32", 12, bench(Forms.benchRow("a/", "4294967296", "0", "0")), 112, 8, 0);
        Forms.readFaults("112 comes before 103", 12, bench(Forms.benchRow("/", "x", "0", "0")), 112, 8, 0);
    }

    private static void noNames() {
        Check.says("103 the NAME has none, or a 0, or no 47");
        Forms.readFaults("none", 12, bench(Forms.benchRow("/", "0", "0", "0")), 103, 8, 0);
        Forms.readFaults("none, and others behind", 12, bench(Forms.benchRow("//a/", "0", "0", "0")), 103, 8, 0);
        Forms.readFaults("a 0 first", 12, bench(Forms.benchRow("\0a/", "0", "0", "0")), 103, 8, 0);
        Forms.readFaults("a 0 last", 12, bench(Forms.benchRow("a\0/", "0", "0", "0")), 103, 8, 0);
        Forms.readFaults("no 47", 12, bench(Forms.benchRow("abc", "0", "0", "0")), 103, 8, 0);
        Forms.readFaults("no 47 in 16", 12, bench(Forms.benchRow("sixteen_octets__", "0", "0", "0")), 103, 8, 0);
        Forms.readFaults("no 47 and a 0", 12, bench(Forms.benchRow("abc\0", "0", "0", "0")), 103, 8, 0);
        Forms.readFaults("103 comes before 104", 12, bench(Forms.benchRow("/", "0", "0", "6001")), 103, 8, 0);
    }

    private static void tooMany() {
        Check.says("104; 1 the text.");
        Forms.readFaults("size 6000 lacks", 12, bench(Forms.benchRow("a/", "0", "0", "6000")), 1, 68, 0);
        Forms.readFaults("size 6001", 12, bench(Forms.benchRow("a/", "0", "0", "6001")), 104, 8, 0);
        Forms.readFaults("a huge size", 12, bench(Forms.benchRow("a/", "0", "0", "9999999999")), 104, 8, 0);
        Forms.readFaults("size 2^32", 12, bench(Forms.benchRow("a/", "0", "0", "4294967296")), 104, 8, 0);
        byte[] many = Forms.NONE;
        for (int i = 0; i < 16; i++) {
            many = Check.octets(many, GOOD);
        }
        Forms.reads("sixteen", 12, bench(many), 16);
        Forms.readFaults("a seventeenth", 12, bench(many, GOOD), 104, 8 + 16 * 60, 16);
        Forms.readFaults("a seventeenth that is not whole", 12, bench(many, "a"), 1, 8 + 16 * 60 + 1, 16);
        byte[] wrong = Forms.benchRow("/", "0", "0", "0");
        Forms.readFaults("103 of a seventeenth", 12, bench(many, wrong), 103, 8 + 16 * 60, 16);
    }

    private static void texts() {
        Check.says("1 the text.");
        byte[] three = Forms.benchRow("a/", "0", "0", "3");
        Forms.readFaults("none of it", 12, bench(three), 1, 68, 0);
        Forms.readFaults("two of it", 12, bench(three, "ab"), 1, 70, 0);
        PackingHouse x = Forms.reads("all of it", 12, bench(three, "abc"), 1);
        Check.due("its text", Check.stream(x, x.extract(0)), Check.octets("abc"));
        byte[] most = Forms.benchRow("a/", "0", "0", "5932");
        x = Forms.reads("5932", 12, bench(most, Check.times('m', 5932)), 1);
        Check.due("its size", x.told(0, 0), 5932);
        Forms.readFaults("in the second", 12, bench(three, "abc\n", three, "xy"), 1, 8 + 64 + 62, 1);
    }
}

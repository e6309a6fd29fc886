import java.util.Arrays;

/** Promises 20 and 21 by TAPE. */
public final class TapeTest {
    private static final byte[] GOOD = Forms.tapeRow("a", "0000644", "00000000000", "00000000000");

    public static void main(String[] args) {
        write();
        fillUp();
        ends();
        figures();
        names();
        prefixes();
        modes();
        notLookedAt();
        sums();
        noFigures();
        types();
        noNames();
        tooMany();
        texts();
        places();
        Check.end("TapeTest");
    }

    private static byte[] tape(Object... parts) {
        return Check.octets(Check.octets(parts), Forms.TWO_ROWS);
    }

    private static byte[] written(String name, byte[] text, int mode, int time) {
        PackingHouse x = new PackingHouse();
        Forms.put(x, name, text, mode, time);
        return Check.stream(x, x.write(11, 0));
    }

    private static void write() {
        Check.says("KIND 11, TAPE: for each ENTRY a row of 512 octets: at 0 NAME; 100 mode, 108, 116 0 each (7 "
                + "figures in eights, and 0); 124 the size, 136 the time (11 figures, and 0)");
        Check.due("the least", written("a", Forms.NONE, 0, 0),
                tape(Forms.tapeRow("a", "0000000", "00000000000", "00000000000")));
        Check.due("the greatest", written("n".repeat(100), Check.octets("x"), 511, Integer.MAX_VALUE),
                tape(Forms.tapeRow("n".repeat(100), "0000777", "00000000001", "17777777777"), "x", new byte[511]));
        Check.says("148 the sum of all octets of the row, these eight as 32: 6 figures, 0, 32; 156 48; 257 "
                + "\"ustar\", 0, \"00\"; others 0.");
        byte[] got = written("\u00FF".repeat(100), Forms.NONE, 511, 0);
        Check.due("a great sum", new String(Arrays.copyOfRange(got, 148, 156), java.nio.charset.StandardCharsets.ISO_8859_1),
                String.format("%06o\0 ", Forms.sumOf(got)));
        Check.due("48", got[156], 48);
        Check.due("the mark", Arrays.copyOfRange(got, 257, 265), Check.octets("ustar", 0, "00"));
        Check.due("0s behind it", Arrays.copyOfRange(got, 265, 512), new byte[247]);
        PackingHouse x = new PackingHouse();
        int most = Check.longStream(x, 'x', 6000);
        x.name('n', 1);
        x.entry(most, 0, 0);
        x.load(most);
        int s = x.write(11, 0);
        Check.due("how many", x.length(s), 512 + 6144 + 1024);
        Check.due("6000", x.at(s, 124 + 7) * 10 + x.at(s, 124 + 8), '3' * 10 + '5');
    }

    private static void fillUp() {
        Check.says("The text, filled with 0 to a multiple of 512. Two rows of 0.");
        PackingHouse x = new PackingHouse();
        Check.due("no ENTRIES", Check.stream(x, x.write(11, 0)), Forms.TWO_ROWS);
        for (int n : new int[] {0, 1, 511, 512, 513, 1024}) {
            byte[] text = Check.times('x', n);
            byte[] got = written("a", text, 0, 0);
            int filled = (n + 511) / 512 * 512;
            Check.due("text of " + n, got, tape(Arrays.copyOf(got, 512), text, new byte[filled - n]));
            Check.due("how many", got.length, 512 + filled + 1024);
        }
    }

    private static void ends() {
        Check.says("READING: a row of 0 ends it (what is behind is not looked at).");
        Forms.reads("one row", 11, new byte[512], 0);
        Forms.reads("two rows", 11, Forms.TWO_ROWS, 0);
        Forms.reads("one row and something", 11, Check.octets(new byte[512], "junk"), 0);
        Forms.reads("one row and a good one", 11, Check.octets(new byte[512], GOOD), 0);
        Forms.reads("behind a row", 11, Check.octets(GOOD, new byte[512]), 1);
        Forms.readFaults("511 of them", 11, new byte[511], 1, 511, 0);
        for (int at : new int[] {0, 256, 511}) {
            Forms.readFaults("a row with a 1 at " + at, 11, Forms.with(new byte[512], at, 1), 101, 0, 0);
        }
    }

    private static PackingHouse figures(String mode, String size, String time) {
        byte[] row = Forms.tapeRow("a", mode, size, time);
        return Forms.reads(mode + ", " + size + ", " + time, 11, tape(row, "x", new byte[511]), 1);
    }

    private static void figures() {
        Check.says("Figures in eights: 32s first, one or more figures, up to the end of their octets or to a 0 or "
                + "32 (what is behind is not looked at).");
        PackingHouse x = figures("77777777", "000000000001", "017777777777");
        Check.due("to the end of their octets", x.told(0, 1), 511);
        Check.due("to the end of their octets", x.told(0, 2), Integer.MAX_VALUE);
        x = figures("  1644 7", "          1 ", "1\0" + "zzzzzzzzzz");
        Check.due("32s first", x.told(0, 1), 0644);
        Check.due("up to a 0", x.told(0, 2), 1);
        x = figures("7 xyz", "1 9", "0 ");
        Check.due("up to a 32", x.told(0, 1), 7);
        x = figures("       5", "           1", "           7");
        Check.due("one at the end", x.told(0, 1), 5);
        Check.due("one at the end", x.told(0, 2), 7);
        byte[] row = GOOD.clone();
        Forms.copy(row, 148, String.format("%8o", Forms.sumOf(row)));
        Forms.reads("the sum with 32s", 11, tape(row), 1);
        Forms.copy(row, 148, String.format("%08o", Forms.sumOf(row)));
        Forms.reads("the sum with 0s", 11, tape(row), 1);
        Forms.copy(row, 148, String.format("%o \0\0\0", Forms.sumOf(row)));
        Forms.reads("the sum up to a 32", 11, tape(row), 1);
    }

    private static void names() {
        Check.says("NAME: up to a 0");
        byte[] row = Forms.tapeRow("ab\0cd", "0", "0", "0");
        Check.due("what is behind is none", Forms.nameOf(Forms.reads("ab", 11, tape(row), 1), 0), "ab");
        row = Forms.tapeRow("n".repeat(99), "0", "0", "0");
        Check.due("99", Forms.reads("99", 11, tape(row), 1).told(0, 3), 99);
        row = Forms.tapeRow("n".repeat(100), "0", "0", "0");
        Check.due("100, and no 0", Forms.nameOf(Forms.reads("100", 11, tape(row), 1), 0), "n".repeat(100));
    }

    private static byte[] prefixed(String prefix, String name) {
        byte[] row = Forms.tapeRow(name, "0", "0", "0");
        Forms.copy(row, 345, prefix);
        return Forms.withSum(row);
    }

    private static void prefixes() {
        Check.says("when octet 345 is not 0, what stands from there up to a 0 or to 499, and 47, come before it.");
        PackingHouse x = Forms.reads("some/dir", 11, tape(prefixed("some/dir", "name")), 1);
        Check.due("its NAME", Forms.nameOf(x, 0), "some/dir/name");
        x = Forms.reads("one octet", 11, tape(prefixed("d", "name")), 1);
        Check.due("its NAME", Forms.nameOf(x, 0), "d/name");
        x = Forms.reads("up to a 0", 11, tape(prefixed("d\0e", "name")), 1);
        Check.due("its NAME", Forms.nameOf(x, 0), "d/name");
        x = Forms.reads("345 is 0", 11, tape(prefixed("\0dir", "name")), 1);
        Check.due("its NAME", Forms.nameOf(x, 0), "name");
        x = Forms.reads("98 and one", 11, tape(prefixed("d".repeat(98), "n")), 1);
        Check.due("100", Forms.nameOf(x, 0), "d".repeat(98) + "/n");
        Forms.readFaults("99 and one", 11, tape(prefixed("d".repeat(99), "n")), 103, 0, 0);
        Forms.readFaults("up to 499", 11, tape(prefixed("d".repeat(155), "n")), 103, 0, 0);
        Forms.readFaults("and 500", 11, tape(prefixed("d".repeat(156), "n")), 103, 0, 0);
    }

    private static void modes() {
        Check.says("The mode's lowest nine bits count.");
        for (int mode : new int[] {0, 511, 512, 1023, 0100644, 07777777}) {
            byte[] row = Forms.tapeRow("a", Integer.toOctalString(mode), "0", "0");
            Check.due("mode " + mode, Forms.reads("mode", 11, tape(row), 1).told(0, 1), mode & 511);
        }
    }

    private static void notLookedAt() {
        Check.says("Others are not looked at.");
        for (int at : new int[] {108, 115, 116, 123, 157, 200, 256, 257, 262, 264, 265, 329, 344, 500, 511}) {
            byte[] row = Forms.with(GOOD, at, 200);
            Forms.reads("octet " + at, 11, tape(Forms.withSum(row)), 1);
        }
    }

    private static void sums() {
        Check.says("RULES: 1 fewer than 512; 101 the sum is no figures; 100 the sum is another one");
        Forms.readFaults("none", 11, Forms.NONE, 1, 0, 0);
        Forms.readFaults("511", 11, Arrays.copyOf(GOOD, 511), 1, 511, 0);
        Forms.readFaults("no end", 11, GOOD, 1, 512, 1);
        Forms.readFaults("511 behind it", 11, Check.octets(GOOD, new byte[511]), 1, 1023, 1);
        for (String sum : new String[] {"        ", "\0\0\0\0\0\0\0\0", "8\0\0\0\0\0\0\0", "12x4\0\0\0\0", "-1\0\0\0\0\0\0"}) {
            byte[] row = GOOD.clone();
            Forms.copy(row, 148, sum);
            Forms.readFaults("the sum is no figures", 11, tape(GOOD, row), 101, 512, 1);
        }
        for (int by : new int[] {-1, 1}) {
            byte[] row = GOOD.clone();
            Forms.copy(row, 148, String.format("%06o\0 ", Forms.sumOf(row) + by));
            Forms.readFaults("the sum is another one", 11, tape(GOOD, row), 100, 512, 1);
        }
        byte[] row = GOOD.clone();
        Forms.copy(row, 148, "0\0\0\0\0\0\0\0");
        Forms.readFaults("a sum of 0", 11, tape(row), 100, 0, 0);
        row = GOOD.clone();
        row[300]++;
        Forms.readFaults("the row is another one", 11, tape(row), 100, 0, 0);
        row = GOOD.clone();
        row[156] = 53;
        Forms.readFaults("100 comes before 102", 11, tape(row), 100, 0, 0);
        row = Forms.tapeRow("\u00FF".repeat(100), "0", "0", "0");
        Forms.reads("octets have no sign", 11, tape(row), 1);
    }

    private static void noFigures() {
        Check.says("101 mode, size, time are no figures, or the time is above 2^31 - 1");
        for (String wrong : new String[] {"", "8", "9", "        ", "\0" + "1", "x", "1x", "1-", "-1", "+1", " \0", "/", "1/", "18"}) {
            String none = "wrong: " + wrong;
            Forms.readFaults(none, 11, tape(Forms.tapeRow("a", wrong, "0", "0")), 101, 0, 0);
            String wide = wrong.isBlank() && !wrong.contains("\0") ? "            ".substring(0, wrong.isEmpty() ? 0 : 12) : wrong;
            Forms.readFaults(none, 11, tape(Forms.tapeRow("a", "0", wide, "0")), 101, 0, 0);
            Forms.readFaults(none, 11, tape(Forms.tapeRow("a", "0", "0", wide)), 101, 0, 0);
        }
        Forms.reads("2^31 - 1", 11, tape(Forms.tapeRow("a", "0", "0", "17777777777")), 1);
        Forms.readFaults("2^31", 11, tape(Forms.tapeRow("a", "0", "0", "20000000000")), 101, 0, 0);
        Forms.readFaults("2^36 - 1", 11, tape(Forms.tapeRow("a", "0", "0", "777777777777")), 101, 0, 0);
        byte[] row = Forms.tapeRow("a", "x", "0", "0");
        row[156] = 53;
        Forms.readFaults("101 comes before 102", 11, tape(Forms.withSum(row)), 101, 0, 0);
    }

    private static void types() {
        Check.says("102 octet 156 is not 48");
        for (int type : new int[] {0, 47, 49, 53, 255}) {
            byte[] row = Forms.with(GOOD, 156, type);
            Forms.readFaults("it is " + type, 11, tape(Forms.withSum(row)), 102, 0, 0);
        }
        byte[] row = Forms.tapeRow("", "0", "0", "0");
        row[156] = 49;
        Forms.readFaults("102 comes before 103", 11, tape(Forms.withSum(row)), 102, 0, 0);
    }

    private static void noNames() {
        Check.says("103 there is none of the NAME at 0, or it has more than 100");
        Forms.readFaults("none", 11, tape(Forms.tapeRow("", "0", "0", "0")), 103, 0, 0);
        Forms.readFaults("none, but what comes before it", 11, tape(prefixed("dir", "")), 103, 0, 0);
        Forms.reads("50, 47, 49", 11, tape(prefixed("d".repeat(50), "n".repeat(49))), 1);
        Forms.readFaults("50, 47, 50", 11, tape(prefixed("d".repeat(50), "n".repeat(50))), 103, 0, 0);
        Forms.readFaults("1, 47, 100", 11, tape(prefixed("d", "n".repeat(100))), 103, 0, 0);
        Forms.readFaults("103 comes before 104", 11, tape(Forms.tapeRow("", "0", "13561", "0")), 103, 0, 0);
    }

    private static void tooMany() {
        Check.says("104 it is a seventeenth, or the size is above 6000");
        // a TRAY has no room for seventeen rows: eleven are 5632 octets
        Forms.readFaults("size 6001", 11, tape(Forms.tapeRow("a", "0", "13561", "0")), 104, 0, 0);
        Forms.readFaults("size 2^36 - 1", 11, tape(Forms.tapeRow("a", "0", "777777777777", "0")), 104, 0, 0);
        Forms.readFaults("size 6000 lacks", 11, Check.octets(Forms.tapeRow("a", "0", "13560", "0"), new byte[5000]), 1,
                5512, 0);
        byte[] ten = Forms.NONE;
        for (int i = 0; i < 10; i++) {
            ten = Check.octets(ten, GOOD);
        }
        Forms.reads("ten", 11, Check.octets(ten, new byte[512]), 10);
        Forms.readFaults("eleven without an end", 11, Check.octets(ten, GOOD), 1, 5632, 11);
    }

    private static void texts() {
        Check.says("1 the text (what fills it up may lack).");
        byte[] three = Forms.tapeRow("b", "0", "3", "0");
        Forms.readFaults("none of it", 11, Check.octets(GOOD, three), 1, 1024, 1);
        Forms.readFaults("two of it", 11, Check.octets(GOOD, three, "ab"), 1, 1026, 1);
        Forms.readFaults("all of it, then no row", 11, Check.octets(GOOD, three, "abc"), 1, 1027, 2);
        Forms.readFaults("and 508 more", 11, Check.octets(GOOD, three, "abc", new byte[508]), 1, 1535, 2);
        Forms.readFaults("and 509 more", 11, Check.octets(GOOD, three, "abc", new byte[509]), 1, 1536, 2);
        PackingHouse x = Forms.reads("and a row", 11, Check.octets(GOOD, three, "abc", new byte[509], new byte[512]), 2);
        Check.due("its text", Check.stream(x, x.extract(1)), Check.octets("abc"));
        byte[] filled = Check.octets(three, "abc", Check.times(9, 509), new byte[512]);
        x = Forms.reads("what fills it up is not looked at", 11, filled, 1);
        Check.due("its text", Check.stream(x, x.extract(0)), Check.octets("abc"));
        byte[] most = Forms.tapeRow("m", "0", "11000", "0");
        x = Forms.reads("4608, the most with its end", 11, Check.octets(most, Check.times('m', 4608), new byte[512]), 1);
        Check.due("its size", x.told(0, 0), 4608);
    }

    private static void places() {
        Check.says("PLACE is where the row (of 512, 60, or with that number of 4 octets) begins or is to begin, "
                + "and for RULE 1 how many octets there are.");
        byte[] text = Forms.tapeRow("t", "0", "1001", "0");
        byte[] bad = Forms.tapeRow("b", "x", "0", "0");
        Forms.readFaults("behind a text of 513", 11, tape(text, Check.times('t', 513), new byte[511], bad), 101, 1536, 1);
        Forms.readFaults("the first row", 11, tape(bad), 101, 0, 0);
        Forms.readFaults("RULE 1", 11, Check.octets(text, Check.times('t', 100)), 1, 612, 0);
    }
}

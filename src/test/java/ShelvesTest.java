/** Promises 18 to 25: name, entry, write, read, told, nameAt, extract, wipe; what is the same for all three KINDS. */
public final class ShelvesTest {
    public static void main(String[] args) {
        name();
        nameEdges();
        entries();
        entryEdges();
        limits();
        unsafe();
        writeKinds();
        writeRoom();
        readKinds();
        readingTakesThePlace();
        told();
        nameAt();
        extract();
        wipe();
        Check.end("ShelvesTest");
    }

    private static void name() {
        Check.says("The NAME at hand gets n octets as by feed(): how many it has; with n = 0 it is empty: 0.");
        PackingHouse x = new PackingHouse();
        Check.due("none yet", x.name(0, 0), 0);
        Check.due("eight", x.name(0x6162636465666768L, 8), 8);
        Check.due("what is above is not looked at", x.name(0x0169L, 1), 9);
        Check.due("a 0 above is not looked at", x.name(0x006AL, 1), 10);
        Check.due("below 0", x.name(-1L, 2), 12);
        x.pack(1, 0);
        x.entry(1, 0, 0);
        int[] want = {'a', 'b', 'c', 'd', 'e', 'f', 'g', 'h', 'i', 'j', 255, 255};
        for (int i = 0; i < want.length; i++) {
            Check.due("octet " + i, x.nameAt(0, i), want[i]);
        }
        x.name('x', 1);
        Check.due("empty", x.name(77, 0), 0);
        Check.due("anew", x.name(0x7A79L, 2), 2);
    }

    private static void nameEdges() {
        Check.says("-2 n is not 0 .. 8, or one is 0; -4 it would have more than 100.");
        PackingHouse x = new PackingHouse();
        for (int n : new int[] {-1, 9, Integer.MIN_VALUE, Integer.MAX_VALUE}) {
            Check.due("n " + n, x.name(0x6162636465666768L, n), -2);
        }
        Check.due("a 0", x.name(0, 1), -2);
        Check.due("a 0 first", x.name(0x0062L, 2), -2);
        Check.due("a 0 last", x.name(0x6200L, 2), -2);
        Check.due("a 0 between", x.name(0x610062L, 3), -2);
        Check.due("a 0 first of eight", x.name(0x0062636465666768L, 8), -2);
        Check.due("a 1", x.name(1, 1), 1);
        Check.due("1s", x.name(0x0101010101010101L, 8), 9);
        Check.due("a 128", x.name(128, 1), 10);
        x.name(0, 0);
        Check.due("none came", x.name('a', 1), 1);
        for (int i = 0; i < 11; i++) {
            x.name(0x6162636465666768L, 8);
        }
        x.name(0x616263L, 3);
        Check.due("92 and 8", x.name(0x6162636465666768L, 8), 100);
        Check.due("100 and 1", x.name('a', 1), -4);
        Check.due("-2 comes first", x.name(0, 1), -2);
        Check.due("-2 comes first", x.name('a', 9), -2);
        x.name(0, 0);
        for (int i = 0; i < 12; i++) {
            x.name(0x6162636465666768L, 8);
        }
        Check.due("96 and 5", x.name(0x6162636465L, 5), -4);
        Check.due("96 and 4", x.name(0x61626364L, 4), 100);
        Check.due("empty again", x.name(0, 0), 0);
    }

    private static void entries() {
        Check.says("A new ENTRY with the NAME at hand (empty then) and a STREAM's octets: its number.");
        PackingHouse x = new PackingHouse();
        int s = Check.streamOf(x, Check.octets("abc"));
        Forms.nameOf(x, "n");
        Check.due("the first", x.entry(s, 420, 7), 0);
        Check.due("the NAME is empty then", x.entry(s, 420, 7), -2);
        Check.due("it begins anew", x.name('m', 1), 1);
        Check.due("the second", x.entry(s, 0, 0), 1);
        Check.due("its NAME", Forms.nameOf(x, 1), "m");
        x.drop(s);
        Check.due("the octets stay when the STREAM does not", Check.stream(x, x.extract(0)), Check.octets("abc"));
    }

    private static void entryEdges() {
        Check.says("-1 there is no such STREAM, -2 mode or time, or the NAME is empty, -4 there are 16, or it has "
                + "more than 6000.");
        PackingHouse x = new PackingHouse();
        int s = Check.streamOf(x, Check.octets("abc"));
        Check.due("no NAME", x.entry(s, 0, 0), -2);
        Forms.nameOf(x, "n");
        for (int stream : new int[] {0, -1, 2, 12, 13, Integer.MIN_VALUE, Integer.MAX_VALUE}) {
            Check.due("STREAM " + stream, x.entry(stream, 0, 0), -1);
            Check.due("STREAM " + stream + ", nor mode", x.entry(stream, -1, -1), -1);
        }
        for (int mode : new int[] {-1, 512, Integer.MIN_VALUE, Integer.MAX_VALUE}) {
            Check.due("mode " + mode, x.entry(s, mode, 0), -2);
        }
        for (int time : new int[] {-1, Integer.MIN_VALUE}) {
            Check.due("time " + time, x.entry(s, 0, time), -2);
        }
        Check.due("the NAME stays", x.entry(s, 511, Integer.MAX_VALUE), 0);
        Check.due("mode", x.told(0, 1), 511);
        Check.due("time", x.told(0, 2), Integer.MAX_VALUE);
        int most = Check.longStream(x, 1, 6000);
        int more = Check.longStream(x, 1, 6001);
        Forms.nameOf(x, "n");
        Check.due("6001", x.entry(more, 0, 0), -4);
        Check.due("6001, and no mode", x.entry(more, 512, 0), -2);
        Check.due("6000", x.entry(most, 0, 0), 1);
        for (int i = 2; i < 16; i++) {
            Forms.nameOf(x, "n");
            Check.due("one more", x.entry(s, 0, 0), i);
        }
        Check.due("a seventeenth without a NAME", x.entry(s, 0, 0), -2);
        Forms.nameOf(x, "n");
        Check.due("a seventeenth", x.entry(s, 0, 0), -4);
        Check.due("a seventeenth, and no mode", x.entry(s, -1, 0), -2);
        Check.due("a seventeenth, and no STREAM", x.entry(12, 0, 0), -1);
    }

    private static void limits() {
        Check.says("SHELVES have ENTRIES 0 .. 15: a NAME of 1 to 100 octets (none is 0), a mode (0 .. 511), a "
                + "time (0 .. 2^31 - 1), and a text of at most 6000 octets.");
        PackingHouse x = new PackingHouse();
        int most = Check.longStream(x, 9, 6000);
        Forms.nameOf(x, "n".repeat(100));
        Check.due("the greatest", x.entry(most, 511, Integer.MAX_VALUE), 0);
        int none = Check.streamOf(x, Forms.NONE);
        Forms.nameOf(x, "n");
        Check.due("the least", x.entry(none, 0, 0), 1);
        int[] want = {6000, 511, Integer.MAX_VALUE, 100, 0, 0, 0, 0, 1, 0};
        for (int i = 0; i < 10; i++) {
            Check.due("told " + i, x.told(i / 5, i % 5), want[i]);
        }
        for (int i = 2; i < 16; i++) {
            Forms.nameOf(x, "n");
            x.entry(none, 0, 0);
        }
        Check.due("ENTRY 15", x.told(15, 3), 1);
        Check.due("ENTRY 16", x.told(16, 3), -1);
    }

    private static void unsafe() {
        Check.says("UNSAFE is a NAME that begins with 47 (/), has 92 or 58 in it, or a piece between two 47s (or "
                + "an end) that is 46, 46.");
        String[] yes = {"/", "/a", "\\", "a\\b", "a\\", ":", "a:", ":a", "..", "../a", "a/..", "a/../b", "../", "a/b/..",
            "../..", "a//../b", "/..", "x/" + "y".repeat(95) + "/.."};
        String[] no = {"a", "a/b", "a/", ".", "...", "....", "a..", "..a", "a../b", "a/...", "./a", "a/.", "a//b",
            "a/..b/c", "a/.../b", ". .", "a.", ".a", "n".repeat(98) + ".."};
        for (String name : yes) {
            Check.due("UNSAFE " + name, unsafeOf(name), 1);
        }
        for (String name : no) {
            Check.due("safe " + name, unsafeOf(name), 0);
        }
    }

    private static int unsafeOf(String name) {
        PackingHouse x = new PackingHouse();
        Forms.put(x, name, Forms.NONE, 0, 0);
        return x.told(0, 4);
    }

    private static void writeKinds() {
        Check.says("The ENTRIES as a KIND 11 .. 13, with a level 0 .. 4 for 13 (0 for others): the STREAM. -2 no "
                + "such kind, or level; -3 a NAME can not be written; -4 no number is free, or it would have more "
                + "than 12000 octets.");
        PackingHouse x = new PackingHouse();
        for (int kind : new int[] {10, 14, 0, -1, 1, Integer.MIN_VALUE, Integer.MAX_VALUE}) {
            Check.due("kind " + kind, x.write(kind, 0), -2);
        }
        for (int kind = 11; kind <= 13; kind++) {
            for (int level : new int[] {-1, 5, Integer.MIN_VALUE, Integer.MAX_VALUE}) {
                Check.due("level " + level + " of " + kind, x.write(kind, level), -2);
            }
            for (int level = 0; level <= 4; level++) {
                Check.due("level " + level + " of " + kind, x.write(kind, level), level == 0 || kind == 13 ? 1 : -2);
                x.drop(1);
            }
        }
        Check.says("-3 a NAME can not be written");
        for (String name : new String[] {"0123456789abcdef", "a/b", "a b", "/", " ", "n".repeat(100)}) {
            x.wipe();
            Forms.put(x, "ok", Forms.NONE, 0, 0);
            Forms.put(x, name, Forms.NONE, 0, 0);
            Check.due("BENCH can not write " + name, x.write(12, 0), -3);
            Check.due("the level comes first", x.write(12, 1), -2);
            for (int kind = 11; kind <= 13; kind += 2) {
                Check.due(kind + " can", x.write(kind, 0), 1);
                x.drop(1);
            }
        }
        Check.useNumbers(x);
        Check.due("-3 comes before no number", x.write(12, 0), -3);
        Check.due("no number", x.write(11, 0), -4);
        Check.due("no number", x.write(13, 0), -4);
        Check.due("-2 comes first", x.write(14, 0), -2);
        x.wipe();
        Check.due("no number", x.write(12, 0), -4);
        x.drop(9);
        Check.due("the one that is free", x.write(12, 0), 9);
    }

    /** A house with ENTRIES of these sizes, whose NAMES are one octet. */
    private static PackingHouse withSizes(int... sizes) {
        PackingHouse x = new PackingHouse();
        for (int size : sizes) {
            int s = Check.longStream(x, 3, size);
            x.name('n', 1);
            x.entry(s, 0, 0);
            x.drop(s);
        }
        return x;
    }

    private static void writeRoom() {
        Check.says("-4 no number is free, or it would have more than 12000 octets.");
        // TAPE: 512 and what is filled up to 512 each, and 1024: 11776 or 12288
        PackingHouse x = withSizes(6000, 3584);
        Check.due("a TAPE of 11776", x.length(x.write(11, 0)), 512 + 6144 + 512 + 3584 + 1024);
        x = withSizes(6000, 3585);
        Check.due("a TAPE of 12288", x.write(11, 0), -4);
        Check.due("nothing is made", x.length(1), -1);
        // BENCH: 8, and 60 with the text, which is even then
        x = withSizes(6000, 5872);
        Check.due("a BENCH of 12000", x.length(x.write(12, 0)), 12000);
        x = withSizes(6000, 5871);
        Check.due("a BENCH of 12000 with a 10", x.length(x.write(12, 0)), 12000);
        x = withSizes(6000, 5873);
        Check.due("a BENCH of 12002", x.write(12, 0), -4);
        // BOX: 30 and 46 and twice the NAME for each, and 22
        x = withSizes(6000, 5822);
        Check.due("a BOX of 12000", x.length(x.write(13, 0)), 12000);
        x = withSizes(6000, 5823);
        Check.due("a BOX of 12001", x.write(13, 0), -4);
        Check.due("by BLOCKS it fits", x.write(13, 1), 1);
        x = withSizes(6000, 6000);
        for (int kind = 11; kind <= 13; kind++) {
            Check.due("too long a " + kind, x.write(kind, 0), -4);
        }
    }

    private static void readKinds() {
        Check.says("READING of the TRAY as a KIND 11 .. 13: how many ENTRIES there are then; or a FAULT (the "
                + "ENTRIES stay). -2 no such kind.");
        PackingHouse x = new PackingHouse();
        for (int kind : new int[] {10, 14, 0, -1, Integer.MIN_VALUE, Integer.MAX_VALUE}) {
            Check.due("kind " + kind, x.read(kind), -2);
        }
        Check.due("no FAULT is told", x.fault(0), 0);
        for (int kind = 11; kind <= 13; kind++) {
            PackingHouse y = new PackingHouse();
            Forms.put(y, "a", Check.octets("abc"), 1, 2);
            y.load(y.write(kind, 0));
            Check.due("one", y.read(kind), 1);
            y.cut(y.cut(0));
            Check.due("none", y.cut(0), 0);
            Check.due("a FAULT", y.read(kind), kind == 13 ? -130 : -11);
            Check.due("the ENTRIES stay", Forms.nameOf(y, 0), "a");
            Check.due("and their texts", Check.stream(y, y.extract(0)), Check.octets("abc"));
        }
        // no number has to be free
        PackingHouse z = new PackingHouse();
        z.load(z.write(12, 0));
        Check.useNumbers(z);
        Check.due("no number is free", z.read(12), 0);
    }

    private static void readingTakesThePlace() {
        Check.says("READING takes the place of the ENTRIES before, if there is no FAULT");
        for (int kind = 11; kind <= 13; kind++) {
            PackingHouse x = new PackingHouse();
            Forms.put(x, "new", Check.octets("xyz"), 3, 4);
            int s = x.write(kind, 0);
            x.wipe();
            Forms.put(x, "old1", Check.octets("1"), 1, 1);
            Forms.put(x, "old2", Check.octets("2"), 1, 1);
            x.name('h', 1);
            x.load(s);
            Check.due("one", x.read(kind), 1);
            Check.due("its NAME", Forms.nameOf(x, 0), "new");
            Check.due("no second", x.told(1, 0), -1);
            Check.due("the NAME at hand stays", x.name('i', 1), 2);
            x.wipe();
            int empty = x.write(kind, 0);
            Forms.put(x, "old1", Check.octets("1"), 1, 1);
            x.load(empty);
            Check.due("none", x.read(kind), 0);
            Check.due("no ENTRY", x.wipe(), 0);
        }
    }

    private static void told() {
        Check.says("Of an ENTRY: what = 0 its size, 1 mode, 2 time, 3 how long its NAME is, 4 whether that is "
                + "UNSAFE. -1 there is none, -2 no such what.");
        PackingHouse x = new PackingHouse();
        Check.due("none yet", x.told(0, 0), -1);
        Forms.put(x, "../n", Check.octets("abc"), 420, 7);
        int[] want = {3, 420, 7, 4, 1};
        for (int what = 0; what < 5; what++) {
            Check.due("what " + what, x.told(0, what), want[what]);
        }
        for (int what : new int[] {-1, 5, Integer.MIN_VALUE, Integer.MAX_VALUE}) {
            Check.due("what " + what, x.told(0, what), -2);
            Check.due("no ENTRY, what " + what, x.told(1, what), -1);
        }
        for (int entry : new int[] {-1, 1, 15, 16, Integer.MIN_VALUE, Integer.MAX_VALUE}) {
            Check.due("ENTRY " + entry, x.told(entry, 0), -1);
        }
    }

    private static void nameAt() {
        Check.says("Octet k of an ENTRY's NAME. -1 there is no such ENTRY, or octet.");
        PackingHouse x = new PackingHouse();
        Check.due("none yet", x.nameAt(0, 0), -1);
        Forms.put(x, "zy", Forms.NONE, 0, 0);
        Forms.put(x, "long", Forms.NONE, 0, 0);
        Check.due("octet 0", x.nameAt(0, 0), 'z');
        Check.due("octet 1", x.nameAt(0, 1), 'y');
        for (int k : new int[] {2, -1, 100, Integer.MIN_VALUE, Integer.MAX_VALUE}) {
            Check.due("octet " + k, x.nameAt(0, k), -1);
        }
        for (int entry : new int[] {2, -1, 16, Integer.MIN_VALUE, Integer.MAX_VALUE}) {
            Check.due("ENTRY " + entry, x.nameAt(entry, 0), -1);
        }
        Forms.put(x, "n".repeat(99) + "m", Forms.NONE, 0, 0);
        Check.due("octet 99", x.nameAt(2, 99), 'm');
        Check.due("octet 100", x.nameAt(2, 100), -1);
    }

    private static void extract() {
        Check.says("A new STREAM with an ENTRY's octets. -1 there is none, -4 no number is free.");
        PackingHouse x = new PackingHouse();
        Check.due("none yet", x.extract(0), -1);
        Forms.put(x, "a", Check.octets("abc"), 0, 0);
        Forms.put(x, "b", Forms.NONE, 0, 0);
        Check.due("extract", x.extract(0), 1);
        Check.due("abc", Check.stream(x, 1), Check.octets("abc"));
        Check.due("an empty one", x.extract(1), 2);
        Check.due("no octets", x.length(2), 0);
        for (int entry : new int[] {2, -1, 16, Integer.MIN_VALUE, Integer.MAX_VALUE}) {
            Check.due("ENTRY " + entry, x.extract(entry), -1);
        }
        int most = Check.longStream(x, 9, 6000);
        x.name('n', 1);
        x.entry(most, 0, 0);
        Check.due("6000", x.differ(most, x.extract(2)), -1);
        Check.useNumbers(x);
        Check.due("no number", x.extract(0), -4);
        Check.due("none comes first", x.extract(3), -1);
        x.drop(11);
        Check.due("the one that is free", x.extract(0), 11);
    }

    private static void wipe() {
        Check.says("There are no ENTRIES: how many there were.");
        PackingHouse x = new PackingHouse();
        Check.due("none", x.wipe(), 0);
        int s = Check.streamOf(x, Check.octets("abc"));
        for (int i = 0; i < 16; i++) {
            x.name('n', 1);
            x.entry(s, 0, 0);
        }
        x.name('h', 1);
        Check.due("sixteen", x.wipe(), 16);
        Check.due("again", x.wipe(), 0);
        Check.due("none", x.told(0, 0), -1);
        Check.due("no NAME", x.nameAt(0, 0), -1);
        Check.due("no text", x.extract(0), -1);
        Check.due("the NAME at hand stays", x.entry(s, 0, 0), 0);
    }
}

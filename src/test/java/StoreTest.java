import java.util.ArrayList;
import java.util.HashSet;
import java.util.List;
import java.util.Set;

/** Promises 34 to 38: save, restore, forget, shared, store. */
public final class StoreTest {
    public static void main(String[] args) {
        snapshots();
        numbers();
        emptyTray();
        pieceEnds();
        pieces();
        once();
        blockLimit();
        octetLimit();
        noMore();
        restore();
        forget();
        sharing();
        store();
        Check.end("StoreTest");
    }

    private static List<String> cutInPieces(byte[] text) {
        List<String> all = new ArrayList<>();
        StringBuilder piece = new StringBuilder();
        int h = 0;
        for (byte b : text) {
            h = h * 31 + (b & 255) + 1;
            piece.append((char) (b & 255));
            if (piece.length() >= 32 && (h >>> 24 & 63) == 63 || piece.length() == 200) {
                all.add(piece.toString());
                piece.setLength(0);
                h = 0;
            }
        }
        if (piece.length() > 0) {
            all.add(piece.toString());
        }
        return all;
    }

    /** Where the first piece of what fill() makes ends, if there are 250 octets. */
    private static int firstEnd(int seed) {
        return cutInPieces(Forms.filled(Forms.NONE, 0, 250, seed)).get(0).length();
    }

    /** A seed from some number on by which a piece of fill() ends just there. */
    private static int seedOf(int from, int end) {
        int seed = from;
        while (firstEnd(seed) != end) {
            seed++;
        }
        return seed;
    }

    private static void snapshots() {
        Check.says("-4 there are 8, or BLOCKS, or their octets, have no room.");
        PackingHouse x = Check.house(Check.octets("abc"));
        for (int i = 1; i <= 8; i++) {
            Check.due("save", x.save(), i);
            Check.due("SNAPSHOTS", x.store(2), i);
        }
        Check.due("there are 8", x.save(), -4);
        x.cut(0);
        Check.due("not even of none", x.save(), -4);
        Check.due("still 8", x.store(2), 8);
        x.forget(4);
        Check.due("now there is room", x.save(), 9);
        Check.due("and no more", x.save(), -4);
    }

    private static void numbers() {
        Check.says("8 SNAPSHOTS (numbered from 1 on, no number comes again), each a row of BLOCKS.");
        PackingHouse x = Check.house(Check.octets("abc"));
        for (int i = 1; i <= 100; i++) {
            Check.due("number", x.save(), i);
            Check.due("forget", x.forget(i), 1);
        }
        for (int i = 101; i <= 108; i++) {
            x.save();
        }
        Check.due("a refused one", x.save(), -4);
        Check.due("takes no number", x.save(), -4);
        x.forget(108);
        Check.due("109", x.save(), 109);
        Check.due("108 is no more", x.restore(108), -1);
        Check.says("A SNAPSHOT of the TRAY: its number.");
        x.forget(101);
        x.feed('d', 1);
        Check.due("of another TRAY", x.save(), 110);
        Check.due("abcd", Check.stream(x, x.restore(110)), Check.octets("abcd"));
        Check.due("abc", Check.stream(x, x.restore(109)), Check.octets("abc"));
    }

    private static void emptyTray() {
        Check.says("A text is cut into PIECES");
        PackingHouse x = new PackingHouse();
        Check.due("of an empty TRAY", x.save(), 1);
        Check.due("no BLOCK", x.store(0), 0);
        Check.due("no octets", x.store(1), 0);
        Check.due("one SNAPSHOT", x.store(2), 1);
        Check.due("restore", x.restore(1), 1);
        Check.due("nothing", x.length(1), 0);
        Check.due("shared", x.shared(1, 1), 0);
        Check.due("forget", x.forget(1), 0);
    }

    /** The BLOCKS and octets that a text is kept by. */
    private static void kept(String what, byte[] text, int... sizes) {
        PackingHouse x = Check.house(text);
        Check.due(what + ": save", x.save(), 1);
        Check.due(what + ": BLOCKS", x.store(0), sizes.length);
        int octets = 0;
        for (int size : sizes) {
            octets += size;
        }
        Check.due(what + ": octets", x.store(1), octets);
        // a SNAPSHOT of each piece alone shares its BLOCK
        int from = 0;
        for (int size : sizes) {
            Check.tray(x, java.util.Arrays.copyOfRange(text, from, from + size));
            int one = x.save();
            Check.due(what + ": a piece of " + size, x.shared(1, one), 1);
            Check.due(what + ": no new BLOCK", x.store(0), sizes.length);
            x.forget(one);
            from += size;
        }
    }

    /** So many octets, of which the first ones up to some length, and from 31 on only these, have bits 24 .. 29 all 1. */
    private static byte[] marked(int length, int many) {
        for (int seed = 0; ; seed++) {
            byte[] text = Forms.filled(Forms.NONE, 0, many, seed);
            if (marks(text).equals("[" + length + "]")) {
                return text;
            }
        }
    }

    /** The lengths from 31 on at which the bits are all 1, if no piece ended before. */
    private static String marks(byte[] text) {
        List<Integer> all = new ArrayList<>();
        int h = 0;
        for (int i = 0; i < text.length; i++) {
            h = h * 31 + (text[i] & 255) + 1;
            if (i >= 30 && (h >>> 24 & 63) == 63) {
                all.add(i + 1);
            }
        }
        return all.toString();
    }

    private static void pieceEnds() {
        Check.says("it ends behind an octet with which it has 32 or more octets and bits 24 .. 29 of h are all 1, "
                + "or with which it has 200, or with the text.");
        kept("one octet", Check.octets("a"), 1);
        kept("31, and the bits", marked(31, 31), 31);
        kept("31, the bits, and more", marked(31, 40), 40);
        kept("32, and the bits", marked(32, 32), 32);
        kept("32, the bits, and more", marked(32, 40), 32, 8);
        kept("33, the bits, and more", marked(33, 40), 33, 7);
        byte[] plain = Forms.filled(Forms.NONE, 0, 200, seedOf(0, 200));
        kept("199", java.util.Arrays.copyOf(plain, 199), 199);
        kept("200", plain, 200);
        kept("201", Check.octets(plain, "x"), 200, 1);
        kept("199 by its bits", Forms.filled(Forms.NONE, 0, 200, seedOf(0, 199)), 199, 1);
        Check.says("from a piece's beginning on h = 0; for each octet h = h * 31 + octet + 1 (32 bits that wrap)");
        byte[] twice = Check.octets(plain, plain);
        PackingHouse x = Check.house(twice);
        x.save();
        Check.due("anew for the second piece", x.store(0), 1);
        byte[] ones = Check.times(255, 6000);
        x = Check.house(ones);
        x.save();
        Check.due("255s", x.store(0), new HashSet<>(cutInPieces(ones)).size());
    }

    private static void pieces() {
        Check.says("A text is cut into PIECES");
        for (int kind = 0; kind < 4; kind++) {
            for (int n : new int[] {1, 31, 32, 33, 199, 200, 201, 400, 401, 3000, 6000}) {
                byte[] text = Forms.filled(Forms.NONE, kind, n, n + kind);
                PackingHouse x = new PackingHouse();
                x.fill(kind, n, n + kind);
                Check.due("save", x.save(), 1);
                Set<String> different = new HashSet<>(cutInPieces(text));
                Check.due("BLOCKS", x.store(0), different.size());
                Check.due("octets", x.store(1), different.stream().mapToInt(String::length).sum());
                Check.due("with itself", x.shared(1, 1), different.size());
                x.cut(0);
                x.load(x.restore(1));
                Check.due("how many", x.cut(0), n);
                x.load(1);
                Check.due("text", x.sum(1), Forms.round(text));
                Check.due("forget", x.forget(1), different.size());
            }
        }
    }

    private static void once() {
        Check.says("A BLOCK is a piece that stands in the STORE once");
        int seed = seedOf(0, 200);
        PackingHouse x = new PackingHouse();
        for (int i = 0; i < 5; i++) {
            x.fill(0, 200, seed);
        }
        x.save();
        Check.due("five that are alike", x.store(0), 1);
        Check.due("200 octets", x.store(1), 200);
        Check.due("with itself", x.shared(1, 1), 1);
        Check.due("1000", x.length(x.restore(1)), 1000);
        x.save();
        Check.due("in another one, too", x.store(0), 1);
        Check.due("forget", x.forget(1), 0);
        Check.due("forget", x.forget(2), 1);
    }

    /** The TRAY gets so many pieces that end just there, from a seed on: the seed behind the last. */
    private static int fillPieces(PackingHouse x, int many, int end, int seed) {
        int next = seed;
        x.cut(0);
        for (int i = 0; i < many; i++) {
            next = seedOf(next, end);
            x.fill(0, end, next);
            next++;
        }
        return next;
    }

    private static void blockLimit() {
        Check.says("at most 300 of them, 40000 octets in all");
        PackingHouse x = new PackingHouse();
        int seed = fillPieces(x, 187, 32, 0);
        Check.due("187", x.save(), 1);
        Check.due("BLOCKS", x.store(0), 187);
        int second = seed;
        seed = fillPieces(x, 114, 32, second);
        Check.due("301", x.save(), -4);
        Check.due("none of them stays", x.store(0), 187);
        Check.due("nor its octets", x.store(1), 187 * 32);
        fillPieces(x, 113, 32, second);
        Check.due("300", x.save(), 2);
        Check.due("BLOCKS", x.store(0), 300);
        Check.due("octets", x.store(1), 9600);
        Check.due("the same again", x.save(), 3);
        x.feed('z', 1);
        Check.due("one more", x.save(), -4);
        x.cut(0);
        Check.due("none", x.save(), 4);
        x.feed('z', 1);
        Check.due("one alone", x.save(), -4);
        Check.due("forget", x.forget(2), 0);
        Check.due("no room yet", x.save(), -4);
        Check.due("forget", x.forget(3), 113);
        Check.due("now there is", x.save(), 5);
        Check.due("BLOCKS", x.store(0), 188);
    }

    private static void octetLimit() {
        Check.says("40000 octets in all");
        PackingHouse x = new PackingHouse();
        int seed = 0;
        for (int i = 1; i <= 6; i++) {
            seed = fillPieces(x, 30, 200, seed);
            Check.due("30 pieces of 200", x.save(), i);
        }
        Check.due("36000", x.store(1), 36000);
        fillPieces(x, 20, 200, seed);
        x.feed('z', 1);
        Check.due("40001", x.save(), -4);
        Check.due("none of them stays", x.store(1), 36000);
        Check.due("nor a BLOCK", x.store(0), 180);
        x.cut(4000);
        Check.due("40000", x.save(), 7);
        Check.due("octets", x.store(1), 40000);
        Check.due("BLOCKS", x.store(0), 200);
        x.cut(0);
        x.feed('z', 1);
        Check.due("one more", x.save(), -4);
        fillPieces(x, 20, 200, seed);
        Check.due("the same again", x.save(), 8);
        Check.due("octets", x.store(1), 40000);
        Check.due("the first is whole", x.length(x.restore(1)), 6000);
        x.load(1);
        byte[] first = Forms.NONE;
        int next = 0;
        for (int i = 0; i < 30; i++) {
            next = seedOf(next, 200);
            first = Check.octets(first, Forms.filled(Forms.NONE, 0, 200, next));
            next++;
        }
        Check.due("as it was", x.sum(1), Forms.round(first));
    }

    private static void noMore() {
        Check.says("A BLOCK that no SNAPSHOT has is no more.");
        PackingHouse x = Check.house(Check.octets("abc"));
        x.save();
        Check.tray(x, Check.octets("xy"));
        x.save();
        Check.due("two", x.store(0), 2);
        Check.due("five octets", x.store(1), 5);
        x.forget(1);
        Check.due("one", x.store(0), 1);
        Check.due("two octets", x.store(1), 2);
        x.forget(2);
        Check.due("none", x.store(0), 0);
        Check.due("no octets", x.store(1), 0);
        Check.due("anew", x.save(), 3);
        Check.due("one", x.store(0), 1);
    }

    private static void restore() {
        Check.says("A new STREAM with what a SNAPSHOT was made of. -1 there is none, -4 no number is free.");
        PackingHouse x = Check.house(Check.octets("abc"));
        Check.due("none yet", x.restore(1), -1);
        x.save();
        x.cut(0);
        Check.due("restore", x.restore(1), 1);
        Check.due("abc", Check.stream(x, 1), Check.octets("abc"));
        for (int snapshot : new int[] {0, 2, -1, 9, Integer.MIN_VALUE, Integer.MAX_VALUE}) {
            Check.due("restore(" + snapshot + ")", x.restore(snapshot), -1);
        }
        Check.useNumbers(x);
        Check.due("no number", x.restore(1), -4);
        Check.due("none comes first", x.restore(2), -1);
        x.drop(5);
        Check.due("the one that is free", x.restore(1), 5);
        Check.due("nothing of what was there before", Check.stream(x, 5), Check.octets("abc"));
        x.forget(1);
        Check.due("forgotten", x.restore(1), -1);
    }

    private static void forget() {
        Check.says("A SNAPSHOT is no more: how many BLOCKS go with it. -1 there is none.");
        PackingHouse x = Check.house(Check.octets("abc"));
        Check.due("none yet", x.forget(1), -1);
        x.save();
        x.save();
        for (int snapshot : new int[] {0, 3, -1, Integer.MIN_VALUE, Integer.MAX_VALUE}) {
            Check.due("forget(" + snapshot + ")", x.forget(snapshot), -1);
        }
        Check.due("the other one has its BLOCK", x.forget(1), 0);
        Check.due("again", x.forget(1), -1);
        Check.due("one goes", x.forget(2), 1);
        Check.due("again", x.forget(2), -1);
        Check.due("no SNAPSHOT", x.store(2), 0);
    }

    private static void sharing() {
        Check.says("How many BLOCKS two SNAPSHOTS have both (each counted once; with itself how many different "
                + "ones it has). -1 there is none.");
        byte[] text = Forms.filled(Forms.NONE, 0, 5000, 9);
        PackingHouse x = new PackingHouse();
        x.fill(0, 5000, 9);
        x.save();
        x.alter(2500, x.octet(2500) ^ 1);
        x.save();
        Set<String> one = new HashSet<>(cutInPieces(text));
        text[2500] ^= 1;
        Set<String> two = new HashSet<>(cutInPieces(text));
        Set<String> both = new HashSet<>(one);
        both.retainAll(two);
        Check.due("shared", x.shared(1, 2), both.size());
        Check.due("shared", x.shared(2, 1), both.size());
        Check.holds("some of them", both.size() > 0 && both.size() < one.size());
        for (int none : new int[] {0, 3, -1, Integer.MIN_VALUE, Integer.MAX_VALUE}) {
            Check.due("no such one", x.shared(1, none), -1);
            Check.due("no such one", x.shared(none, 1), -1);
            Check.due("no such one", x.shared(none, none), -1);
        }
        Check.due("BLOCKS", x.store(0), one.size() + two.size() - both.size());
        Check.due("those that go", x.forget(1), one.size() - both.size());
        Check.due("BLOCKS left", x.store(0), two.size());
        Check.due("a forgotten one", x.shared(1, 2), -1);
        int seed = seedOf(0, 200);
        int other = seedOf(seed + 1, 200);
        PackingHouse y = new PackingHouse();
        for (int i = 0; i < 4; i++) {
            y.fill(0, 200, seed);
        }
        y.fill(0, 200, other);
        y.save();
        Check.due("different ones", y.shared(1, 1), 2);
        y.cut(600);
        y.save();
        Check.due("each counted once", y.shared(1, 2), 1);
        y.cut(0);
        y.feed('q', 1);
        y.save();
        Check.due("none", y.shared(1, 3), 0);
        Check.due("nor the other way", y.shared(3, 1), 0);
        Check.due("one", y.shared(3, 3), 1);
    }

    private static void store() {
        Check.says("What = 0 how many BLOCKS there are, 1 octets of these, 2 SNAPSHOTS. -2 no such what.");
        PackingHouse x = Check.house(Check.octets("abc"));
        for (int what : new int[] {-1, 3, Integer.MIN_VALUE, Integer.MAX_VALUE}) {
            Check.due("what " + what, x.store(what), -2);
        }
        for (int what = 0; what < 3; what++) {
            Check.due("none", x.store(what), 0);
        }
        x.save();
        x.save();
        int[] want = {1, 3, 2};
        for (int what = 0; what < 3; what++) {
            Check.due("what " + what, x.store(what), want[what]);
        }
    }
}

import java.util.ArrayList;
import java.util.HashSet;
import java.util.List;
import java.util.Set;

/** Promises 34 to 38: save, restore, forget, shared, store. */
public final class StoreTest {
    public static void main(String[] args) {
        numbers();
        pieces();
        sharing();
        room();
        Check.end("StoreTest");
    }

    private static void numbers() {
        PackingHouse x = Check.house(Check.octets("abc"));
        Check.due("what -1", x.store(-1), -2);
        Check.due("what 3", x.store(3), -2);
        for (int i = 1; i <= 8; i++) {
            Check.due("save", x.save(), i);
        }
        Check.due("there are 8", x.save(), -4);
        Check.due("one BLOCK", x.store(0), 1);
        Check.due("of three octets", x.store(1), 3);
        Check.due("eight SNAPSHOTS", x.store(2), 8);
        Check.due("forget 3", x.forget(3), 0);
        Check.due("forget 3 again", x.forget(3), -1);
        Check.due("forget 0", x.forget(0), -1);
        Check.due("forget 9", x.forget(9), -1);
        Check.due("no number comes again", x.save(), 9);
        Check.due("restore 3", x.restore(3), -1);
        Check.due("restore 9", x.restore(9), 1);
        Check.due("abc", Check.stream(x, 1), Check.octets("abc"));
        for (int i = 2; i <= 12; i++) {
            x.restore(1);
        }
        Check.due("no number", x.restore(1), -4);
        Check.due("none comes first", x.restore(3), -1);
        for (int i = 1; i <= 9; i++) {
            Check.due("forget " + i, x.forget(i), i == 3 ? -1 : i == 9 ? 1 : 0);
        }
        Check.due("no BLOCK", x.store(0), 0);
        Check.due("no octet", x.store(1), 0);
        Check.due("no SNAPSHOT", x.store(2), 0);
        x.cut(0);
        Check.due("of an empty TRAY", x.save(), 10);
        Check.due("no BLOCK", x.store(0), 0);
        Check.due("one SNAPSHOT", x.store(2), 1);
        x.drop(4);
        Check.due("restore", x.restore(10), 4);
        Check.due("nothing", x.length(4), 0);
        Check.due("shared", x.shared(10, 10), 0);
        Check.due("forget", x.forget(10), 0);
    }

    private static List<String> cutInPieces(byte[] text) {
        List<String> all = new ArrayList<>();
        StringBuilder piece = new StringBuilder();
        int h = 0;
        for (byte b : text) {
            h = h * 31 + (b & 255) + 1;
            piece.append((char) (b & 255));
            if (piece.length() >= 32 && (h >>> 24 & 63) == 63 || piece.length() == 200) {
                all.add(piece.toString());
                piece.setLength(0);
                h = 0;
            }
        }
        if (piece.length() > 0) {
            all.add(piece.toString());
        }
        return all;
    }

    private static byte[] filled(int kind, int n, int seed) {
        PackingHouse x = new PackingHouse();
        x.fill(kind, n, seed);
        byte[] all = new byte[n];
        for (int i = 0; i < n; i++) {
            all[i] = (byte) x.octet(i);
        }
        return all;
    }

    private static void pieces() {
        for (int kind = 0; kind < 4; kind++) {
            for (int n : new int[] {1, 31, 32, 33, 199, 200, 201, 400, 401, 3000, 6000}) {
                byte[] text = filled(kind, n, n + kind);
                PackingHouse x = Check.house(text);
                Check.due("save", x.save(), 1);
                Set<String> different = new HashSet<>(cutInPieces(text));
                Check.due("BLOCKS", x.store(0), different.size());
                Check.due("octets", x.store(1), different.stream().mapToInt(String::length).sum());
                Check.due("with itself", x.shared(1, 1), different.size());
                x.cut(0);
                Check.due("restore", x.restore(1), 1);
                Check.due("text", Check.stream(x, 1), text);
                Check.due("forget", x.forget(1), different.size());
            }
        }
        // these end with their 200th octet
        PackingHouse x = Check.house(Check.times(4, 1000));
        x.save();
        Check.due("five pieces that are alike", x.store(0), 1);
        Check.due("200 octets", x.store(1), 200);
        Check.due("text", x.length(x.restore(1)), 1000);
    }

    private static void sharing() {
        byte[] text = filled(0, 5000, 9);
        PackingHouse x = Check.house(text);
        x.save();
        x.alter(2500, x.octet(2500) ^ 1);
        x.save();
        Set<String> one = new HashSet<>(cutInPieces(text));
        text[2500] ^= 1;
        Set<String> two = new HashSet<>(cutInPieces(text));
        Set<String> both = new HashSet<>(one);
        both.retainAll(two);
        Check.due("shared", x.shared(1, 2), both.size());
        Check.due("shared", x.shared(2, 1), both.size());
        Check.holds("some of them", both.size() > 0 && both.size() < one.size());
        Check.due("no such one", x.shared(1, 3), -1);
        Check.due("no such one", x.shared(3, 1), -1);
        Check.due("no such one", x.shared(0, 1), -1);
        Check.due("BLOCKS", x.store(0), one.size() + two.size() - both.size());
        Check.due("those that go", x.forget(1), one.size() - both.size());
        Check.due("BLOCKS left", x.store(0), two.size());
        Check.due("the other one stays", Check.stream(x, x.restore(2)), text);
    }

    private static void room() {
        PackingHouse x = new PackingHouse();
        Set<String> all = new HashSet<>();
        int saved = 0;
        boolean refused = false;
        for (int i = 1; i <= 8; i++) {
            byte[] text = filled(0, 6000, i * 77);
            Check.tray(x, text);
            Set<String> more = new HashSet<>(all);
            more.addAll(cutInPieces(text));
            int octets = more.stream().mapToInt(String::length).sum();
            boolean fits = more.size() <= 300 && octets <= 40000;
            int got = x.save();
            Check.due("save " + i, got, fits ? saved + 1 : -4);
            if (fits) {
                saved++;
                all = more;
            } else {
                refused = true;
            }
            Check.due("BLOCKS", x.store(0), all.size());
            Check.due("octets", x.store(1), all.stream().mapToInt(String::length).sum());
            Check.due("SNAPSHOTS", x.store(2), saved);
        }
        Check.holds("one was refused", refused);
        Check.due("the first is whole", Check.stream(x, x.restore(1)), filled(0, 6000, 77));
        // short pieces: 300 of them are there before 40000 octets
        x = new PackingHouse();
        all.clear();
        saved = 0;
        for (int i = 0; i < 3; i++) {
            byte[] text = shortPieces(i);
            Check.tray(x, text);
            Set<String> more = new HashSet<>(all);
            more.addAll(cutInPieces(text));
            boolean fits = more.size() <= 300;
            Check.due("save", x.save(), fits ? saved + 1 : -4);
            if (fits) {
                saved++;
                all = more;
            }
            Check.due("BLOCKS", x.store(0), all.size());
        }
        Check.due("300 BLOCKS were the bound", saved, 1);
        x.forget(1);
        Check.due("there is room again", x.save(), 2);
    }

    /** 187 pieces of 32 octets each: some octets are chosen so that each ends there. */
    private static byte[] shortPieces(int which) {
        byte[] all = new byte[32 * 187];
        for (int from = 0; from < all.length; from += 32) {
            all[from] = (byte) which;
            all[from + 1] = (byte) (from / 32);
            boolean found = false;
            for (int v = 0; v < 1 << 24 && !found; v++) {
                all[from + 2] = (byte) (v >> 16);
                all[from + 3] = (byte) (v >> 8);
                all[from + 4] = (byte) v;
                int h = 0;
                for (int i = 0; i < 32; i++) {
                    h = h * 31 + (all[from + i] & 255) + 1;
                }
                found = (h >>> 24 & 63) == 63;
            }
        }
        return all;
    }
}

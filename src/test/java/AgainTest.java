import java.util.ArrayList;
import java.util.List;

/** What a call answers does not hang on the calls before it, but for what the document says: rows that are used again are clean. */
public final class AgainTest {
    public static void main(String[] args) {
        List<byte[]> texts = texts();
        packing(texts);
        opening(texts);
        deltas(texts);
        shelves(texts);
        parts(texts);
        Check.end("AgainTest");
    }

    private static List<byte[]> texts() {
        List<byte[]> all = new ArrayList<>();
        for (int i = 0; i < 12; i++) {
            all.add(Forms.filled(Forms.NONE, i % 4, new int[] {300, 20, 0, 150, 80, 299, 7, 1}[i % 8], i));
        }
        return all;
    }

    private static byte[] packed(PackingHouse x, byte[] text, int kind, int level) {
        Check.tray(x, text);
        int s = x.pack(kind, level);
        byte[] all = Check.stream(x, s);
        x.drop(s);
        return all;
    }

    private static void packing(List<byte[]> texts) {
        Check.says("PACKING: the TRAY as a text becomes a STREAM.");
        PackingHouse x = new PackingHouse();
        for (int round = 0; round < 3; round++) {
            for (int kind = 1; kind <= 10; kind++) {
                for (int level = 0; level <= (kind >= 3 && kind <= 5 ? 4 : 0); level++) {
                    byte[] text = texts.get((round * 7 + kind + level) % texts.size());
                    Check.due("pack " + kind + ", " + level, packed(x, text, kind, level),
                            packed(new PackingHouse(), text, kind, level));
                }
            }
        }
        // each kind with each text behind each other one
        for (int kind = 1; kind <= 10; kind++) {
            for (byte[] text : texts) {
                Check.due("pack " + kind, packed(x, text, kind, 0), packed(new PackingHouse(), text, kind, 0));
            }
        }
    }

    private static String opened(PackingHouse x, byte[] octets, int kind) {
        Check.tray(x, octets);
        int s = x.open(kind);
        String told = s + " " + x.fault(0) + " " + x.fault(1) + " " + x.fault(2);
        told += s > 0 ? java.util.Arrays.toString(Check.stream(x, s)) : "";
        x.drop(s);
        return told;
    }

    private static void opening(List<byte[]> texts) {
        Check.says("OPENING: the TRAY becomes a STREAM, or a FAULT is told");
        PackingHouse x = new PackingHouse();
        for (int kind = 1; kind <= 10; kind++) {
            for (int i = 0; i < texts.size(); i++) {
                int level = kind >= 3 && kind <= 5 ? i % 5 : 0;
                byte[] octets = packed(new PackingHouse(), texts.get(i), kind, level);
                Check.due("open " + kind, opened(x, octets, kind), opened(new PackingHouse(), octets, kind));
                // and with a bit turned, or cut
                byte[] less = java.util.Arrays.copyOf(octets, octets.length * 2 / 3);
                Check.due("open less " + kind, opened(x, less, kind), opened(new PackingHouse(), less, kind));
                if (octets.length > 0) {
                    byte[] other = Forms.with(octets, octets.length / 2, octets[octets.length / 2] ^ 16);
                    Check.due("open other " + kind, opened(x, other, kind), opened(new PackingHouse(), other, kind));
                }
            }
        }
    }

    private static byte[] made(PackingHouse x, byte[] first, byte[] other) {
        int a = Check.streamOf(x, first);
        int b = Check.streamOf(x, other);
        int d = x.delta(a, b);
        byte[] all = Check.stream(x, d);
        x.drop(a);
        x.drop(b);
        x.drop(d);
        return all;
    }

    private static void deltas(List<byte[]> texts) {
        Check.says("A new STREAM: the DELTA from a STREAM to another one.");
        PackingHouse x = new PackingHouse();
        for (byte[] first : texts) {
            packed(x, first, 8, 0);
            for (byte[] other : texts) {
                byte[] both = Check.octets(first, other);
                Check.due("delta", made(x, first, both), made(new PackingHouse(), first, both));
                Check.due("delta back", made(x, both, first), made(new PackingHouse(), both, first));
            }
        }
    }

    private static String shelf(PackingHouse x, List<byte[]> texts, int from, int kind, int level) {
        x.wipe();
        for (int i = from; i < from + 3; i++) {
            Forms.put(x, "name" + i, texts.get(i % texts.size()), i, 100 * i);
        }
        int s = x.write(kind, level);
        String told = java.util.Arrays.toString(Check.stream(x, s));
        x.load(s);
        x.drop(s);
        x.wipe();
        told += x.read(kind) + " " + x.fault(2);
        for (int e = 0; e < 4; e++) {
            for (int what = 0; what < 5; what++) {
                told += " " + x.told(e, what);
            }
            int t = x.extract(e);
            told += " " + Forms.nameOf(x, e) + java.util.Arrays.toString(Check.stream(x, t));
            x.drop(t);
        }
        return told;
    }

    private static void shelves(List<byte[]> texts) {
        Check.says("The ENTRIES as a KIND 11 .. 13");
        PackingHouse x = new PackingHouse();
        for (int i = 0; i < texts.size(); i++) {
            for (int kind = 11; kind <= 13; kind++) {
                int level = kind == 13 ? i % 5 : 0;
                Check.due("write and read " + kind, shelf(x, texts, i, kind, level),
                        shelf(new PackingHouse(), texts, i, kind, level));
            }
        }
    }

    private static String set(PackingHouse x, byte[] text, int data, int checks) {
        Check.tray(x, text);
        String told = "" + x.protect(data, checks);
        for (int p = 0; p < checks; p++) {
            told += " " + x.lose(p) + " " + x.part(data + p, 0);
        }
        told += " " + x.repair();
        int s = x.whole();
        told += java.util.Arrays.toString(Check.stream(x, s));
        x.drop(s);
        return told;
    }

    private static void parts(List<byte[]> texts) {
        Check.says("A SET of the TRAY, in place of one before");
        PackingHouse x = new PackingHouse();
        for (byte[] text : texts) {
            for (int data = 3; data <= 32; data += 7) {
                for (int checks = 0; checks <= 3; checks++) {
                    Check.due("protect", set(x, text, data, checks), set(new PackingHouse(), text, data, checks));
                }
            }
        }
    }
}

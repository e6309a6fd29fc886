import java.lang.reflect.Method;
import java.util.Arrays;
import java.util.Set;
import java.util.TreeSet;
import java.util.regex.Matcher;
import java.util.regex.Pattern;

/** What the document says before its Terms: what the house is, for how long, and its face. */
public final class HouseTest {
    private static final byte[] TEXT = Check.octets("a text, a text that is like a text, and aaaaaaaaaaaaaaaaaaaaa: ",
            Check.times('b', 900), "a text that is like a text, and another text", Check.times('c', 700));

    public static void main(String[] args) throws Exception {
        fewerAndAgain();
        firstPlace();
        shelves();
        deltas();
        parts();
        store();
        calls512();
        face();
        Check.end("HouseTest");
    }

    private static void fewerAndAgain() {
        Check.says("A house for making octets fewer, and having them again: packers by published forms and one of its "
                + "own, with several ways to choose matches");
        for (int kind = 1; kind <= 10; kind++) {
            Set<String> ways = new TreeSet<>();
            for (int level = 0; level <= (kind >= 3 && kind <= 5 ? 4 : 0); level++) {
                PackingHouse house = Check.house(TEXT);
                Check.due("pack(" + kind + ", " + level + ")", house.pack(kind, level), 1);
                boolean asItIs = kind >= 3 && kind <= 5 && level == 0;
                Check.due("fewer by " + kind + ", " + level, house.length(1) < TEXT.length ? 1 : 0, asItIs ? 0 : 1);
                ways.add(Arrays.toString(Check.stream(house, 1)));
                house.load(1);
                Check.due("open(" + kind + ")", house.open(kind), 2);
                Check.due("again by " + kind + ", " + level, Check.stream(house, 2), TEXT);
            }
            Check.due("ways of " + kind, ways.size(), kind >= 3 && kind <= 5 ? 5 : 1);
        }
    }

    private static void firstPlace() {
        Check.says("openers that take what keeps the rules and tell the first place that does not");
        byte[] packed = packed(4, 2);
        // both the head's second octet and the sum behind the BLOCKS are wrong: the first one is told
        packed[1] ^= 1;
        packed[packed.length - 1] ^= 1;
        Check.faults("two places", 4, packed, 21, 1, 0);
        packed[1] ^= 1;
        Check.faults("the second one alone", 4, packed, 23, packed.length - 1, TEXT.length);
        packed[packed.length - 1] ^= 1;
        Check.opens("none", 4, packed, TEXT);
    }

    private static byte[] packed(int kind, int level) {
        PackingHouse house = Check.house(TEXT);
        return Check.stream(house, house.pack(kind, level));
    }

    private static void shelves() {
        Check.says("shelves of entries in three forms");
        for (int kind = 10; kind <= 14; kind++) {
            PackingHouse house = Check.house(TEXT);
            house.pack(3, 2);
            house.name('n', 1);
            house.entry(1, 1, 2);
            Check.due("write(" + kind + ")", house.write(kind, 0), kind >= 11 && kind <= 13 ? 2 : -2);
            house.load(2);
            Check.due("read(" + kind + ")", house.read(kind), kind >= 11 && kind <= 13 ? 1 : -2);
        }
    }

    private static void deltas() {
        Check.says("deltas between two texts");
        PackingHouse house = Check.house(TEXT);
        house.pack(3, 0);
        house.pack(10, 0);
        house.load(house.delta(1, 2));
        Check.due("apply", house.apply(1), 4);
        Check.due("the other", house.differ(2, 4), -1);
    }

    private static void parts() {
        Check.says("parts with checks, of which some may be lost");
        PackingHouse house = Check.house(TEXT);
        house.protect(5, 2);
        house.lose(0);
        house.lose(6);
        Check.due("two of seven", house.repair(), 2);
        Check.due("whole", Check.stream(house, house.whole()), TEXT);
    }

    private static void store() {
        Check.says("a store in which a piece stands once.");
        PackingHouse house = Check.house(TEXT);
        house.save();
        int blocks = house.store(0);
        int octets = house.store(1);
        house.save();
        Check.due("BLOCKS", house.store(0), blocks);
        Check.due("octets", house.store(1), octets);
        Check.holds("a text that has the same piece often", octets < TEXT.length);
    }

    private static void calls512() {
        Check.says("An object is used for at most 512 calls after it has been made");
        PackingHouse house = new PackingHouse();
        for (int i = 0; i < 511; i++) {
            Check.due("call " + i, house.feed(i, 8), 8 * i + 8);
        }
        Check.due("the 512th call", house.octet(4087), 510 & 255);
        Check.says("what later calls answer is free.");
        for (int i = 0; i < 2000; i++) {
            house.drop(house.pack(1 + i % 10, 0));
        }
        Check.holds("but they end", true);
    }

    /** The document's own lines of the face, against the class. */
    private static void face() throws Exception {
        Matcher lines = Pattern.compile("public (int|long) (\\w+)\\(([^)]*)\\);").matcher(Check.document());
        int many = 0;
        while (lines.find()) {
            String[] words = lines.group(3).isEmpty() ? new String[0] : lines.group(3).split(",\\s*");
            Class<?>[] types = new Class<?>[words.length];
            for (int i = 0; i < words.length; i++) {
                types[i] = words[i].startsWith("long ") ? long.class : int.class;
            }
            Check.due("what " + lines.group(2) + " answers",
                    PackingHouse.class.getMethod(lines.group(2), types).getReturnType().getName(), lines.group(1));
            many++;
        }
        int own = 0;
        for (Method method : PackingHouse.class.getMethods()) {
            own += method.getDeclaringClass() == PackingHouse.class ? 1 : 0;
        }
        Check.holds("as many calls as the document has", Check.document().isEmpty() || many == own);
    }
}

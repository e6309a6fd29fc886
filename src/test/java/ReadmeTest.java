import java.nio.file.Files;
import java.nio.file.Path;
import java.util.regex.Matcher;
import java.util.regex.Pattern;

/** What README.md shows of the class is done here, line by line, and answers as it is said there. */
public final class ReadmeTest {
    private static PackingHouse house = new PackingHouse();
    private static int opened;

    public static void main(String[] args) throws Exception {
        packing();
        shelves();
        deltas();
        parts();
        store();
        shownLines();
        Check.end("ReadmeTest");
    }

    private static void packing() {
        PackingHouse house = new PackingHouse();
        house.fill(1, 900, 77);
        byte[] text = new byte[900];
        for (int i = 0; i < 900; i++) {
            text[i] = (byte) house.octet(i);
        }
        int packed = house.pack(4, 2);
        int bits = house.bits();
        int tokens = house.token(-1, 0);
        int size = house.token(tokens - 1, 0);
        Check.due("packed", packed, 1);
        Check.due("bits, with 2 octets before them and 4 behind", (bits + 7) / 8 + 6, house.length(1));
        Check.due("the last token ends the text", house.token(tokens - 1, 2) + size, 900);
        house.load(packed);
        int opened = house.open(4);
        Check.due("opened", opened, 2);
        Check.due("the 900 octets", Check.stream(house, 2), text);
        house.alter(0, 121);
        int answer = house.open(4);
        int rule = house.fault(0);
        Check.due("answer", answer, -30);
        Check.due("rule", rule, 20);
        Check.due("place", house.fault(1), 0);
        Check.due("out", house.fault(2), 0);
        ReadmeTest.house = house;
        ReadmeTest.opened = opened;
    }

    private static void shelves() {
        house.name(0x612F62L, 3);
        int entry = house.entry(opened, 0644, 1000);
        int box = house.write(13, 4);
        house.load(box);
        int entries = house.read(13);
        int unsafe = house.told(0, 4);
        int extracted = house.extract(0);
        Check.due("entry", entry, 0);
        Check.due("entries", entries, 1);
        Check.due("unsafe", unsafe, 0);
        Check.due("extracted", house.differ(opened, extracted), -1);
        Check.due("mode", house.told(0, 1), 0644);
        Check.due("time", house.told(0, 2), 1000);
    }

    private static void deltas() {
        house.load(opened);
        house.alter(450, 33);
        int tapped = house.pack(1, 0);
        house.load(tapped);
        int other = house.open(1);
        int delta = house.delta(opened, other);
        Check.due("the other differs", house.differ(opened, other), 450);
        house.load(delta);
        int applied = house.apply(opened);
        Check.holds("applied", applied > 0);
        Check.due("the other one again", house.differ(other, applied), -1);
    }

    private static void parts() {
        house.load(opened);
        int partSize = house.protect(8, 3);
        house.lose(2);
        house.spoil(5, 0, 255);
        int gone = house.repair();
        int whole = house.whole();
        Check.due("of a part", partSize, 113);
        Check.due("gone", gone, 2);
        Check.due("whole", house.differ(opened, whole), -1);
        Check.due("how many", house.length(whole), 900);
    }

    private static void store() {
        int snapshot = house.save();
        int blocks = house.store(0);
        int restored = house.restore(snapshot);
        int left = house.forget(snapshot);
        Check.due("snapshot", snapshot, 1);
        Check.holds("blocks", blocks > 0);
        Check.due("restored", house.differ(opened, restored), -1);
        Check.due("all blocks go", left, blocks);
        Check.due("none is left", house.store(0), 0);
    }

    /** Each line of Java that README.md shows stands above. */
    private static void shownLines() throws Exception {
        String own = Files.readString(Path.of("src/test/java/ReadmeTest.java"));
        Matcher shown = Pattern.compile("(?s)```java\n(.*?)```").matcher(Files.readString(Path.of("README.md")));
        int many = 0;
        while (shown.find()) {
            for (String line : shown.group(1).split("\n")) {
                String code = line.replaceAll("//.*", "").trim();
                Check.holds("shown in README.md, and done here: " + code, own.contains("        " + code + "\n"));
                many++;
            }
        }
        Check.holds("there are lines", many > 30);
    }
}

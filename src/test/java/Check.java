import java.io.IOException;
import java.nio.file.Files;
import java.nio.file.Path;
import java.util.Arrays;
import java.util.List;

/** What every test of the project uses: answers are compared, wrong ones are printed and counted. */
final class Check {
    private static final Path DOCUMENT = Path.of("../shared/DOC.md");
    private static int wrong = 0;
    private static int asked = 0;
    private static String about = "";
    private static String document;

    private Check() {
    }

    /**
     * The words of the document that the answers behind this hang on. They have to stand in it as they are, so
     * that a test whose sentence has changed is seen; SentencesTest looks whether every sentence has a test.
     */
    static void says(String words) {
        about = "'" + words + "': ";
        asked++;
        if (!document().isEmpty() && !document().contains(plain(words))) {
            wrong++;
            System.out.println(about + "this does not stand in the document");
        }
    }

    /** The document, with one blank for each row of blanks and ends of lines; empty if it is not there. */
    static String document() {
        if (document == null) {
            try {
                document = Files.exists(DOCUMENT) ? plain(Files.readString(DOCUMENT)) : "";
            } catch (IOException e) {
                throw new IllegalStateException("can not read " + DOCUMENT, e);
            }
        }
        return document;
    }

    static String plain(String text) {
        return text.replaceAll("\\s+", " ");
    }

    static void due(String what, long got, long want) {
        due(what, String.valueOf(got), String.valueOf(want));
    }

    static void due(String what, String got, String want) {
        asked++;
        if (!got.equals(want)) {
            wrong++;
            System.out.println(about + what + " answered " + got + ", due is " + want);
        }
    }

    static void due(String what, byte[] got, byte[] want) {
        due(what, Arrays.toString(got), Arrays.toString(want));
    }

    static void holds(String what, boolean it) {
        due(what, it ? 1 : 0, 1);
    }

    /** Prints how many answers were looked at and ends with exit code 1 if one was wrong. */
    static void end(String test) {
        System.out.println(test + ": " + asked + " answers, " + wrong + " wrong");
        if (wrong > 0 || asked == 0) {
            System.exit(1);
        }
    }

    /** Octets from numbers and from the characters of texts. */
    static byte[] octets(Object... parts) {
        java.io.ByteArrayOutputStream out = new java.io.ByteArrayOutputStream();
        for (Object part : parts) {
            if (part instanceof Integer) {
                out.write((Integer) part);
            } else if (part instanceof String) {
                String text = (String) part;
                for (int i = 0; i < text.length(); i++) {
                    out.write(text.charAt(i));
                }
            } else {
                byte[] some = (byte[]) part;
                out.write(some, 0, some.length);
            }
        }
        return out.toByteArray();
    }

    static byte[] times(int octet, int many) {
        byte[] all = new byte[many];
        Arrays.fill(all, (byte) octet);
        return all;
    }

    static byte[] low(long v, int octets) {
        byte[] all = new byte[octets];
        for (int i = 0; i < octets; i++) {
            all[i] = (byte) (v >>> (8 * i));
        }
        return all;
    }

    static byte[] hex(String text) {
        byte[] all = new byte[text.length() / 2];
        for (int i = 0; i < all.length; i++) {
            all[i] = (byte) Integer.parseInt(text.substring(2 * i, 2 * i + 2), 16);
        }
        return all;
    }

    static PackingHouse house(byte[] tray) {
        PackingHouse house = new PackingHouse();
        tray(house, tray);
        return house;
    }

    static void tray(PackingHouse house, byte[] octets) {
        house.cut(0);
        int i = 0;
        while (i < octets.length) {
            int n = Math.min(8, octets.length - i);
            long v = 0;
            for (int k = 0; k < n; k++) {
                v = v << 8 | octets[i + k] & 255;
            }
            house.feed(v, n);
            i += n;
        }
    }

    static byte[] stream(PackingHouse house, int number) {
        byte[] all = new byte[Math.max(0, house.length(number))];
        for (int i = 0; i < all.length; i++) {
            all[i] = (byte) house.at(number, i);
        }
        return all;
    }

    /** All numbers up to 12 are STREAMS then; those that there were stay. */
    static void useNumbers(PackingHouse house) {
        for (int i = 0; i < 12; i++) {
            house.pack(10, 0);
        }
    }

    /** A STREAM of these octets (some 5900 at most), with the least number that is free. */
    static int streamOf(PackingHouse house, byte[] octets) {
        tray(house, octets);
        int packed = house.pack(1, 0);
        house.load(packed);
        house.drop(packed);
        return house.open(1);
    }

    /** A STREAM with more octets than the TRAY can have: all the same. */
    static int longStream(PackingHouse house, int octet, int many) {
        house.cut(0);
        for (int left = many; left > 0; left -= 100) {
            house.feed((left >= 100 ? 157 : 257 - left) << 8 | octet, 2);
        }
        return house.open(1);
    }

    /** What open() says of octets, with what fault() tells then. */
    static void opens(String what, int kind, byte[] octets, byte[] text) {
        PackingHouse house = house(octets);
        due(what + ": open(" + kind + ")", house.open(kind), 1);
        due(what + ": text", stream(house, 1), text);
        due(what + ": fault(0)", house.fault(0), 0);
        due(what + ": fault(1)", house.fault(1), 0);
        due(what + ": fault(2)", house.fault(2), text.length);
    }

    static void faults(String what, int kind, byte[] octets, int rule, int place, int out) {
        PackingHouse house = house(octets);
        due(what + ": open(" + kind + ")", house.open(kind), -10 - rule);
        due(what + ": no STREAM", house.length(1), -1);
        due(what + ": RULE", house.fault(0), rule);
        due(what + ": PLACE", house.fault(1), place);
        due(what + ": out", house.fault(2), out);
    }

    static void packs(String what, int kind, int level, byte[] text, byte[] packed) {
        PackingHouse house = house(text);
        due(what + ": pack", house.pack(kind, level), 1);
        due(what + ": octets", stream(house, 1), packed);
    }

    static List<byte[]> someTexts() {
        byte[] mixed = new byte[5000];
        int z = 12345;
        for (int i = 0; i < mixed.length; i++) {
            z = z * 1103515245 + 12345;
            int r = z >>> 16 & 1023;
            mixed[i] = (byte) (i >= 40 && r < 700 ? mixed[i - 1 - r % 40] : r < 900 ? 97 + r % 7 : r);
        }
        byte[] noise = new byte[3000];
        for (int i = 0; i < noise.length; i++) {
            z = z * 1103515245 + 12345;
            noise[i] = (byte) (z >>> 16);
        }
        byte[] ramp = new byte[2048];
        for (int i = 0; i < ramp.length; i++) {
            ramp[i] = (byte) (i / 3);
        }
        return List.of(new byte[0], octets("a"), octets("ab"), octets("aaaa"), octets("abcabcabcabcabcabc"),
                times(0, 6000), times(255, 2000), mixed, noise, ramp);
    }
}

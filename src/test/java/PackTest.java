import java.math.BigInteger;
import java.util.Arrays;
import java.util.HashMap;
import java.util.Map;

/** Promise 13: pack, by the KINDS that are neither BLOCKS nor SORTED. */
public final class PackTest {
    public static void main(String[] args) {
        kinds();
        levels();
        numbers();
        trayStays();
        bitRows();
        runs();
        words();
        wordWidths();
        wordsThatEnd();
        fast();
        fastEdges();
        frame();
        copies();
        copyEdges();
        odds();
        oddsCarry();
        everyKindComesBack();
        Check.end("PackTest");
    }

    private static void kinds() {
        Check.says("-2 no such kind, or level; -4 no number is free, or it would have more than 12000 octets.");
        PackingHouse x = Check.house(Check.octets("abcabcabc"));
        for (int kind : new int[] {0, 11, -1, Integer.MIN_VALUE, Integer.MAX_VALUE}) {
            Check.due("kind " + kind, x.pack(kind, 0), -2);
        }
        for (int kind = 1; kind <= 10; kind++) {
            Check.due("kind " + kind, x.pack(kind, 0), 1);
            x.drop(1);
        }
    }

    private static void levels() {
        Check.says("PACKING by a KIND 1 .. 10, with a level 0 .. 4 for KINDS 3, 4, 5 (0 for others): the STREAM, "
                + "the least number that is free.");
        PackingHouse x = Check.house(Check.octets("abcabcabc"));
        for (int kind = 1; kind <= 10; kind++) {
            boolean levels = kind >= 3 && kind <= 5;
            for (int level : new int[] {-1, 5, Integer.MIN_VALUE, Integer.MAX_VALUE}) {
                Check.due("level " + level + " of " + kind, x.pack(kind, level), -2);
            }
            for (int level = 1; level <= 4; level++) {
                Check.due("level " + level + " of " + kind, x.pack(kind, level), levels ? 1 : -2);
                x.drop(1);
            }
        }
    }

    private static void numbers() {
        Check.says("-4 no number is free");
        PackingHouse x = Check.house(Check.octets("abc"));
        for (int i = 1; i <= 12; i++) {
            Check.due("pack", x.pack(6, 0), i);
        }
        Check.due("no number", x.pack(6, 0), -4);
        Check.due("the kind comes first", x.pack(0, 0), -2);
        Check.due("the level comes first", x.pack(3, 5), -2);
        x.drop(7);
        Check.due("the one that is free", x.pack(6, 0), 7);
    }

    private static void trayStays() {
        Check.says("(The TRAY stays.)");
        for (int kind = 1; kind <= 10; kind++) {
            for (int level = 0; level <= (kind >= 3 && kind <= 5 ? 4 : 0); level++) {
                PackingHouse x = new PackingHouse();
                x.fill(2, 700, 3);
                long before = x.sum(1);
                x.pack(kind, level);
                Check.due("how many", x.cut(700), 700);
                Check.due("what", x.sum(1), before);
            }
        }
        Check.says("PACKING: the TRAY as a text becomes a STREAM.");
        PackingHouse x = Check.house(Check.octets("abc"));
        x.pack(1, 0);
        x.cut(1);
        x.pack(1, 0);
        Check.due("three", Check.stream(x, 1), Check.octets(2, "abc"));
        Check.due("one", Check.stream(x, 2), Check.octets(0, "a"));
    }

    private static void bitRows() {
        Check.says("A LOW ROW of bits fills octets from their lowest bit up, a HIGH ROW from their highest bit "
                + "down; a number of n bits stands in a LOW ROW with its lowest bit first, in a HIGH ROW with its "
                + "highest first.");
        // WORDS are a LOW ROW: 256 and 257 in 9 bits each
        Check.packs("a LOW ROW", 2, 0, Forms.NONE, Check.octets(0x00, 0x03, 0x02));
        Check.packs("a HIGH ROW", 9, 0, Forms.NONE, Check.hex("425a683117724538509000000000"));
        Check.says("LOW FIRST and HIGH FIRST tell in which order the octets of a number stand");
        Check.packs("258 HIGH FIRST", 10, 0, Forms.pairs(258), naiveOdds(Forms.pairs(258)));
        Check.due("it is 1, 2", Arrays.copyOf(naiveOdds(Forms.pairs(258)), 2), Check.octets(1, 2));
        Check.packs("257 LOW FIRST", 8, 0, Forms.pairs(258),
                Check.octets(130, 2, 244, 1, 1, Forms.pairs(258)));
        Check.packs("772 LOW FIRST", 8, 0, Forms.pairs(773), Check.octets(133, 6, 244, 4, 3, Forms.pairs(773)));
        Check.says("PREFIX CODES stand with their highest bit first in both.");
        // 'a' is 10010001, the end 0000000, behind 1 and 1 0
        Check.packs("a code in a LOW ROW", 3, 1, Check.octets("a"), Check.octets(0x4B, 0x04, 0x00));
        Check.says("What is left of an octet behind the last bit is filled with 0");
        // 18 bits: six are left
        Check.packs("WORDS", 2, 0, Forms.NONE, Check.octets(0x00, 0x03, 0x02));
        // 10 bits: six are left
        Check.packs("FIXED", 3, 1, Forms.NONE, Check.octets(3, 0));
        PackingHouse x = Check.house(Check.octets("a"));
        x.pack(9, 0);
        byte[] want = sortedOne('a');
        Check.due("SORTED", Check.stream(x, 1), want);
        for (int v : new int[] {0, 15, 16, 240, 255}) {
            Check.packs("SORTED of " + v, 9, 0, Check.octets(v), sortedOne(v));
        }
        Check.due("its last bits", want[want.length - 1] & 7, 0);
    }

    /** One octet: T is it; it is the only sign; symbols 0 (one front sign) and 2 (end) of three. */
    private static byte[] sortedOne(int octet) {
        long turned = Forms.turned(Check.octets(octet));
        BitRow row = Forms.sortedBegin(turned, 0).number(0x8000 >> octet / 16, 16).number(0x8000 >> octet % 16, 16);
        row.number(2, 3).number(1, 15).number(0, 1);
        for (int code = 0; code < 2; code++) {
            // counts 1, 1, 1: the first two are joined first, so that lengths are 2, 2, 1
            row.number(2, 5).code("0").code("0").code("110");
        }
        return Forms.sortedEnd(row.code("10").code("0"), turned).octets();
    }

    private static void runs() {
        Check.says("PACKING, from the left: three or more alike: up to 128 of them at once");
        Check.packs("none", 1, 0, Forms.NONE, Forms.NONE);
        Check.packs("two alike", 1, 0, Check.octets("aa"), Check.octets(1, "aa"));
        Check.packs("three alike", 1, 0, Check.octets("aaa"), Check.octets(254, "a"));
        Check.packs("127", 1, 0, Check.times(7, 127), Check.octets(130, 7));
        Check.packs("128", 1, 0, Check.times(7, 128), Check.octets(129, 7));
        Check.packs("129", 1, 0, Check.times(7, 129), Check.octets(129, 7, 0, 7));
        Check.packs("130", 1, 0, Check.times(7, 130), Check.octets(129, 7, 1, 7, 7));
        Check.packs("131", 1, 0, Check.times(7, 131), Check.octets(129, 7, 254, 7));
        Check.packs("256", 1, 0, Check.times(7, 256), Check.octets(129, 7, 129, 7));
        Check.says("others together, up to 128, till three alike come.");
        Check.packs("one", 1, 0, Check.octets("a"), Check.octets(0, "a"));
        Check.packs("others behind", 1, 0, Check.octets("aaabc"), Check.octets(254, "a", 1, "bc"));
        Check.packs("others before", 1, 0, Check.octets("aabbb"), Check.octets(1, "aa", 254, "b"));
        Check.packs("two alike are others", 1, 0, Check.octets("abbcc"), Check.octets(4, "abbcc"));
        Check.packs("what is left goes with others", 1, 0, Check.octets(Check.times(7, 130), "abb"),
                Check.octets(129, 7, 4, 7, 7, "abb"));
        Check.packs("127 others", 1, 0, Forms.ramp(0, 127), Check.octets(126, Forms.ramp(0, 127)));
        Check.packs("128 others", 1, 0, Forms.ramp(0, 128), Check.octets(127, Forms.ramp(0, 128)));
        Check.packs("129 others", 1, 0, Forms.ramp(0, 129), Check.octets(127, Forms.ramp(0, 128), 0, 128));
        Check.packs("127 others and three", 1, 0, Check.octets(Forms.ramp(0, 127), "zzz"),
                Check.octets(126, Forms.ramp(0, 127), 254, "z"));
        Check.packs("128 others and three", 1, 0, Check.octets(Forms.ramp(0, 128), "zzz"),
                Check.octets(127, Forms.ramp(0, 128), 254, "z"));
        Check.packs("three at the 127th of them", 1, 0, Check.octets(Forms.ramp(0, 126), "zz", "zz"),
                Check.octets(125, Forms.ramp(0, 126), 253, "z"));
        Check.packs("two at the end of 128", 1, 0, Check.octets(Forms.ramp(0, 127), "zz"),
                Check.octets(127, Forms.ramp(0, 127), "z", 0, "z"));
    }

    private static BitRow wordRow() {
        return BitRow.low().number(256, 9);
    }

    private static int width(int number) {
        return Math.max(9, 32 - Integer.numberOfLeadingZeros(Math.min(4095, 257 + number)));
    }

    /** WORDS by the words of the document: all entries are looked at each time. */
    private static byte[] naiveWords(byte[] octets) {
        String text = new String(octets, java.nio.charset.StandardCharsets.ISO_8859_1);
        BitRow row = wordRow();
        Map<String, Integer> entries = new HashMap<>();
        int number = 0;
        int p = 0;
        String before = "";
        while (p < text.length()) {
            if (number > 0) {
                entries.put(before + text.charAt(p), 257 + number);
            }
            String best = text.substring(p, p + 1);
            for (String entry : entries.keySet()) {
                best = entry.length() > best.length() && text.startsWith(entry, p) ? entry : best;
            }
            row.number(entries.getOrDefault(best, (int) best.charAt(0)), width(number));
            p += best.length();
            before = best;
            number++;
            if (number == 3838) {
                row.number(256, width(number));
                entries.clear();
                number = 0;
            }
        }
        return row.number(257, width(number)).octets();
    }

    private static void words() {
        Check.says("PACKING: CLEAR (9 bits)");
        Check.packs("none", 2, 0, Forms.NONE, wordRow().number(257, 9).octets());
        Check.says("the longest entry, or octet, that the text goes on with, each time (also the entry that this "
                + "code itself makes)");
        Check.packs("the entry that the code makes", 2, 0, Check.octets("aaaa"),
                wordRow().number('a', 9).number(258, 9).number('a', 9).number(257, 9).octets());
        Check.packs("two of them", 2, 0, Check.octets("aaaaaa"),
                wordRow().number('a', 9).number(258, 9).number(259, 9).number(257, 9).octets());
        Check.packs("an entry", 2, 0, Check.octets("ababab"),
                wordRow().number('a', 9).number('b', 9).number(258, 9).number(258, 9).number(257, 9).octets());
        Check.packs("the longest one", 2, 0, Check.octets("abababa"),
                wordRow().number('a', 9).number('b', 9).number(258, 9).number(260, 9).number(257, 9).octets());
        for (byte[] text : Check.someTexts()) {
            Check.packs("by all entries", 2, 0, text, naiveWords(text));
        }
        byte[] text = Forms.filled(Forms.filled(Forms.NONE, 0, 4500, 8), 2, 1500, 9);
        Check.packs("with a CLEAR", 2, 0, text, naiveWords(text));
    }

    private static void wordWidths() {
        Check.says("Code number k, and what comes in its place, has the least width from 9 to 12 in which 257 + k "
                + "can be written.");
        for (int many : new int[] {254, 255, 256, 766, 767, 768, 1790, 1791, 1792}) {
            byte[] text = Forms.pairs(many);
            BitRow row = wordRow();
            for (int k = 0; k < many; k++) {
                row.number(text[k] & 255, k < 255 ? 9 : k < 767 ? 10 : k < 1791 ? 11 : 12);
            }
            row.number(257, many < 255 ? 9 : many < 767 ? 10 : many < 1791 ? 11 : 12);
            Check.packs(many + " codes and END", 2, 0, text, row.octets());
        }
    }

    private static void wordsThatEnd() {
        Check.says("behind 3838 codes a CLEAR (also when the text ends there); END.");
        for (int many : new int[] {3837, 3838, 3839}) {
            byte[] text = Forms.pairs(many);
            BitRow row = wordRow();
            for (int k = 0; k < Math.min(many, 3838); k++) {
                row.number(text[k] & 255, k < 255 ? 9 : k < 767 ? 10 : k < 1791 ? 11 : 12);
            }
            if (many == 3837) {
                row.number(257, 12);
            } else if (many == 3838) {
                row.number(256, 12).number(257, 9);
            } else {
                row.number(256, 12).number(text[3838] & 255, 9).number(257, 9);
            }
            Check.packs(many + " codes", 2, 0, text, row.octets());
        }
    }

    private static void fast() {
        Check.says("an empty text is the octet 0.");
        Check.packs("none", 6, 0, Forms.NONE, Check.octets(0));
        Check.says("SEQUENCES: an octet, its high four bits how many literals, its low ones a match's length less "
                + "4; 15 in the high ones: octets follow, to be added, up to one below 255; the literals");
        byte[] others = Forms.pairs(600);
        Check.packs("3 literals", 6, 0, Check.octets("abc"), Check.octets(48, "abc"));
        Check.packs("14 literals", 6, 0, Arrays.copyOf(others, 14), Check.octets(224, Arrays.copyOf(others, 14)));
        Check.packs("15 literals", 6, 0, Arrays.copyOf(others, 15), Check.octets(240, 0, Arrays.copyOf(others, 15)));
        Check.packs("269 literals", 6, 0, Arrays.copyOf(others, 269),
                Check.octets(240, 254, Arrays.copyOf(others, 269)));
        Check.packs("270 literals", 6, 0, Arrays.copyOf(others, 270),
                Check.octets(240, 255, 0, Arrays.copyOf(others, 270)));
        Check.packs("524 literals", 6, 0, Arrays.copyOf(others, 524),
                Check.octets(240, 255, 254, Arrays.copyOf(others, 524)));
        Check.packs("525 literals", 6, 0, Arrays.copyOf(others, 525),
                Check.octets(240, 255, 255, 0, Arrays.copyOf(others, 525)));
        Check.says("15 in the low ones: octets follow likewise.");
        byte[] tail = Check.octets(80, "aaaaa");
        Check.packs("a match of 18", 6, 0, Check.times('a', 24), Check.octets(30, "a", 1, 0, tail));
        Check.packs("a match of 19", 6, 0, Check.times('a', 25), Check.octets(31, "a", 1, 0, 0, tail));
        Check.packs("a match of 273", 6, 0, Check.times('a', 279), Check.octets(31, "a", 1, 0, 254, tail));
        Check.packs("a match of 274", 6, 0, Check.times('a', 280), Check.octets(31, "a", 1, 0, 255, 0, tail));
        Check.packs("a match of 5994", 6, 0, Check.times('a', 6000),
                Check.octets(31, "a", 1, 0, Check.times(255, 23), 110, tail));
        Check.says("2 octets LOW FIRST, the distance");
        byte[] far = Check.octets("wxyz", Arrays.copyOfRange(Forms.pairs(4000), 300, 300 + 296), "wxyz", "01234567");
        PackingHouse x = Check.house(far);
        x.pack(6, 0);
        byte[] got = Check.stream(x, 1);
        Check.due("distance 300", Arrays.copyOfRange(got, got.length - 11, got.length),
                Check.octets(300 - 256, 1, 128, "01234567"));
    }

    private static void fastEdges() {
        Check.says("PACKING: GREEDY (4 and more, reach 65535), where a match begins at 12 or more before the end "
                + "and ends at 5 or more before it (the LONGEST one is cut there; below 4 it is none)");
        Check.packs("12 alike", 6, 0, Check.times('a', 12), Check.octets(192, Check.times('a', 12)));
        Check.packs("13 alike", 6, 0, Check.times('a', 13), Check.octets(19, "a", 1, 0, 80, "aaaaa"));
        // a match of 4 at 12 before the end, and at 11 before it
        Check.packs("at 12 before the end", 6, 0, Check.octets("abcdabcd", "01234567"),
                Check.octets(64, "abcd", 4, 0, 128, "01234567"));
        Check.packs("at 11 before the end", 6, 0, Check.octets("abcdabcd", "0123456"),
                Check.octets(240, 0, "abcdabcd", "0123456"));
        // a match of three is none
        Check.packs("three are none", 6, 0, Check.octets("abc-abc", "0123456789"),
                Check.octets(240, 2, "abc-abc", "0123456789"));
        // it ends where five are left, though more are alike
        Check.packs("cut at 5 before the end", 6, 0, Check.octets("abcdefghijkl", "abcdefghijkl"),
                Check.octets(195, "abcdefghijkl", 12, 0, 80, "hijkl"));
        Check.packs("as it is at 6 before the end", 6, 0, Check.octets("abcdefghijkl", "abcdefg", "123456"),
                Check.octets(195, "abcdefghijkl", 12, 0, 96, "123456"));
        Check.packs("as it is at 5 before the end", 6, 0, Check.octets("abcdefghijkl", "abcdefgh", "12345"),
                Check.octets(196, "abcdefghijkl", 12, 0, 80, "12345"));
        Check.packs("cut to 5 before the end", 6, 0, Check.octets("abcdefghijkl", "abcdefghi", "1234"),
                Check.octets(196, "abcdefghijkl", 12, 0, 80, "i", "1234"));
    }

    private static void frame() {
        Check.says("PACKING: FLAGS 100, the octet behind 64; a text that is not empty in one block, as it is if "
                + "FAST is not shorter; the sum of all.");
        byte[] head = Check.hex("04224d186440a7");
        Check.packs("none", 7, 0, Forms.NONE, Check.octets(head, 0, 0, 0, 0, Check.hex("055dcc02")));
        Check.packs("as it is", 7, 0, Check.octets("abc"),
                Check.octets(head, 3, 0, 0, 128, "abc", 0, 0, 0, 0, Check.low(0x32D153FFL, 4)));
        byte[] same = Check.octets("abcdabcd", "01234567");
        Check.packs("FAST has as many", 7, 0, same,
                Check.octets(head, 16, 0, 0, 128, same, 0, 0, 0, 0, Check.low(Forms.mixed(same), 4)));
        byte[] less = Check.octets("abcdeabcde", "01234567");
        Check.packs("FAST has one less", 7, 0, less, Check.octets(head, 17, 0, 0, 0, 81, "abcde", 5, 0, 128, "01234567",
                0, 0, 0, 0, Check.low(Forms.mixed(less), 4)));
        byte[] many = Check.times('a', 13);
        Check.packs("FAST is shorter", 7, 0, many, Check.octets(head, 10, 0, 0, 0, 19, "a", 1, 0, 80, "aaaaa",
                0, 0, 0, 0, Check.low(Forms.mixed(many), 4)));
    }

    private static void copies() {
        Check.says("how many octets come out, in SEVENS: octets of 7 bits, the lowest first, with 128 in all but "
                + "the last, at most 5.");
        Check.packs("none", 8, 0, Forms.NONE, Check.octets(0));
        byte[] text = Forms.pairs(300);
        Check.packs("127", 8, 0, Arrays.copyOf(text, 127), Check.octets(127, 240, 126, Arrays.copyOf(text, 127)));
        Check.packs("128", 8, 0, Arrays.copyOf(text, 128), Check.octets(128, 1, 240, 127, Arrays.copyOf(text, 128)));
        Check.says("literals that follow one another in one, with the fewest octets.");
        Check.packs("one", 8, 0, Check.octets("a"), Check.octets(1, 0, "a"));
        Check.packs("60 literals", 8, 0, Arrays.copyOf(text, 60), Check.octets(60, 236, Arrays.copyOf(text, 60)));
        Check.packs("61 literals", 8, 0, Arrays.copyOf(text, 61), Check.octets(61, 240, 60, Arrays.copyOf(text, 61)));
        Check.packs("256 literals", 8, 0, Arrays.copyOf(text, 256),
                Check.octets(128, 2, 240, 255, Arrays.copyOf(text, 256)));
        Check.packs("257 literals", 8, 0, Arrays.copyOf(text, 257),
                Check.octets(129, 2, 244, 0, 1, Arrays.copyOf(text, 257)));
        byte[] all = Forms.pairs(6000);
        Check.packs("6000 literals", 8, 0, all, Check.octets(0xF0, 0x2E, 244, 0x6F, 0x17, all));
    }

    private static void copyEdges() {
        Check.says("PACKING: GREEDY (4 .. 64, reach 65535)");
        Check.packs("three are none", 8, 0, Check.octets("abcXabc"), Check.octets(7, 24, "abcXabc"));
        Check.packs("four are one", 8, 0, Check.octets("abcdabcd"), Check.octets(8, 12, "abcd", 1, 4));
        Check.packs("64", 8, 0, Check.times('a', 65), Check.octets(65, 0, "a", 254, 1, 0));
        Check.packs("64 at most", 8, 0, Check.times('a', 66), Check.octets(66, 0, "a", 254, 1, 0, 0, "a"));
        Check.packs("64 and 4", 8, 0, Check.times('a', 69), Check.octets(69, 0, "a", 254, 1, 0, 1, 1));
        Check.says("copies by 1 if length is below 12 and distance below 2048, else 2");
        Check.packs("length 11", 8, 0, Check.times('a', 12), Check.octets(12, 0, "a", 29, 1));
        Check.packs("length 12", 8, 0, Check.times('a', 13), Check.octets(13, 0, "a", 46, 1, 0));
        for (int distance = 2047; distance <= 2048; distance++) {
            byte[] between = Arrays.copyOfRange(Forms.pairs(4000), 300, 300 + distance - 4);
            PackingHouse x = Check.house(Check.octets("wxyz", between, "wxyz"));
            x.pack(8, 0);
            byte[] got = Check.stream(x, 1);
            byte[] want = distance == 2047 ? Check.octets(7 << 5 | 1, 255) : Check.octets(14, 0, 8);
            Check.due("distance " + distance, Arrays.copyOfRange(got, got.length - want.length, got.length), want);
            Check.due("how many", got.length, 2 + 3 + 4 + between.length + want.length);
        }
    }

    /** ODDS by the words of the document: what went out and LOW are one number of any length. */
    private static byte[] naiveOdds(byte[] text) {
        int[][] odds = new int[256][256];
        for (int[] some : odds) {
            Arrays.fill(some, 1024);
        }
        BigInteger low = BigInteger.ZERO;
        long range = 0xFFFFFFFFL;
        int out = 0;
        int before = 0;
        for (byte b : text) {
            int node = 1;
            for (int k = 7; k >= 0; k--) {
                int bit = b >> k & 1;
                long bound = range / 2048 * odds[before][node];
                if (bit == 0) {
                    range = bound;
                    odds[before][node] += (2048 - odds[before][node]) / 32;
                } else {
                    low = low.add(BigInteger.valueOf(bound));
                    range -= bound;
                    odds[before][node] -= odds[before][node] / 32;
                }
                for (; range < 1 << 24; range *= 256) {
                    low = low.shiftLeft(8);
                    out++;
                }
                node = node * 2 + bit;
            }
            before = b & 255;
        }
        byte[] number = low.toByteArray();
        byte[] all = new byte[out + 4];
        for (int i = 0; i < Math.min(number.length, all.length); i++) {
            all[all.length - 1 - i] = number[number.length - 1 - i];
        }
        return Check.octets(text.length >> 8, text.length & 255, all);
    }

    private static void odds() {
        Check.says("KIND 10, ODDS: how many octets, 2 HIGH FIRST; then bits by a RANGE of 32 bits (all 1 at "
                + "first) and a LOW (0): each octet by 8 bits, the highest first, each with ODDS of its own, by "
                + "the octet before (0 at first) and the bits of this one that came before: a number of 11 bits, "
                + "1024 at first.");
        Check.packs("none", 10, 0, Forms.NONE, Check.octets(0, 0, 0, 0, 0, 0));
        // eight bits of 0, with odds of their own each: the RANGE is halved, LOW stays 0
        Check.packs("a 0", 10, 0, Check.octets(0), Check.octets(0, 1, 0, 0, 0, 0, 0));
        for (int n : new int[] {255, 256, 257}) {
            byte[] text = Forms.filled(Forms.NONE, 0, n, n);
            Check.packs("of " + n, 10, 0, text, naiveOdds(text));
        }
        Check.says("A bit: bound = (RANGE / 2048) * odds. 0: RANGE is bound, odds are more by (2048 - odds) / 32; "
                + "1: LOW is more by bound, RANGE less, odds less by odds / 32 (all rounded down). While RANGE is "
                + "below 2^24: the highest octet of LOW goes out, LOW is the rest times 256, RANGE times 256.");
        for (int v = 0; v < 256; v++) {
            Check.packs("one octet " + v, 10, 0, Check.octets(v), naiveOdds(Check.octets(v)));
        }
        // odds that come to their least and to their greatest
        Check.packs("0s", 10, 0, Check.times(0, 4000), naiveOdds(Check.times(0, 4000)));
        Check.packs("255s", 10, 0, Check.times(255, 4000), naiveOdds(Check.times(255, 4000)));
        byte[] turns = Forms.filled(Check.octets(Check.times(0, 2000), Check.times(255, 1500)), 0, 400, 5);
        Check.packs("what was never there", 10, 0, turns, naiveOdds(turns));
        Check.says("At the end the four octets of LOW, the highest first.");
        for (byte[] text : Check.someTexts()) {
            Check.packs("texts", 10, 0, text, naiveOdds(text));
        }
    }

    private static void oddsCarry() {
        Check.says("LOW going beyond 32 bits adds 1 to what went out before (as one number).");
        int through = 0;
        for (int seed = 0; seed < 200; seed++) {
            byte[] text = Forms.filled(Forms.NONE, seed % 4, 60, seed);
            byte[] want = naiveOdds(text);
            PackingHouse x = new PackingHouse();
            x.fill(seed % 4, 60, seed);
            x.pack(10, 0);
            Check.due("fill " + seed, Check.stream(x, 1), want);
            for (int i = 3; i < want.length - 4; i++) {
                through += want[i] == 0 ? 1 : 0;
            }
        }
        Check.holds("1 went through a 255", through > 0);
    }

    private static void everyKindComesBack() {
        Check.says("A house for making octets fewer, and having them again");
        for (byte[] text : Check.someTexts()) {
            for (int kind = 1; kind <= 10; kind++) {
                for (int level = 0; level <= (kind >= 3 && kind <= 5 ? 4 : 0); level++) {
                    PackingHouse x = Check.house(text);
                    Check.due("pack", x.pack(kind, level), 1);
                    if (x.load(1) >= 0) {
                        Check.due("open", x.open(kind), 2);
                        Check.due(kind + ", " + level, Check.stream(x, 2), text);
                    }
                }
            }
        }
    }
}

import java.io.ByteArrayInputStream;
import java.util.zip.GZIPInputStream;
import java.util.zip.Inflater;

/** Promises 13, 16 and 17: pack, token, bits. */
public final class PackTest {
    public static void main(String[] args) throws Exception {
        refusals();
        runs();
        words();
        blocks();
        rimAndMember();
        fastAndFrame();
        copies();
        sortedAndOdds();
        tokens();
        parses();
        bits();
        foreignOpeners();
        everyKindComesBack();
        Check.end("PackTest");
    }

    private static void refusals() {
        PackingHouse x = Check.house(Check.octets("abcabcabc"));
        Check.due("kind 0", x.pack(0, 0), -2);
        Check.due("kind 11", x.pack(11, 0), -2);
        Check.due("kind least", x.pack(Integer.MIN_VALUE, 0), -2);
        for (int kind = 1; kind <= 10; kind++) {
            boolean levels = kind >= 3 && kind <= 5;
            Check.due("level -1", x.pack(kind, -1), -2);
            Check.due("level 5", x.pack(kind, 5), -2);
            Check.due("level 1 of " + kind, x.pack(kind, 1), levels ? 1 : -2);
            x.drop(1);
            Check.due("level 4 of " + kind, x.pack(kind, 4), levels ? 1 : -2);
            x.drop(1);
        }
        Check.due("the TRAY stays", x.cut(9), 9);
        for (int i = 1; i <= 12; i++) {
            x.pack(6, 0);
        }
        Check.due("the kind comes first", x.pack(0, 0), -2);
        Check.due("the level comes first", x.pack(3, 5), -2);
        Check.due("no number", x.pack(3, 0), -4);
    }

    private static void runs() {
        Check.packs("none", 1, 0, new byte[0], new byte[0]);
        Check.packs("one", 1, 0, Check.octets("a"), Check.octets(0, "a"));
        Check.packs("two alike", 1, 0, Check.octets("aa"), Check.octets(1, "aa"));
        Check.packs("three alike", 1, 0, Check.octets("aaa"), Check.octets(254, "a"));
        Check.packs("others behind", 1, 0, Check.octets("aaabc"), Check.octets(254, "a", 1, "bc"));
        Check.packs("others before", 1, 0, Check.octets("aabbb"), Check.octets(1, "aa", 254, "b"));
        Check.packs("128", 1, 0, Check.times(7, 128), Check.octets(129, 7));
        Check.packs("129", 1, 0, Check.times(7, 129), Check.octets(129, 7, 0, 7));
        Check.packs("130", 1, 0, Check.times(7, 130), Check.octets(129, 7, 1, 7, 7));
        Check.packs("131", 1, 0, Check.times(7, 131), Check.octets(129, 7, 254, 7));
        Check.packs("what is left goes with others", 1, 0, Check.octets(Check.times(7, 130), "abb"),
                Check.octets(129, 7, 4, 7, 7, "abb"));
        byte[] ramp = new byte[129];
        for (int i = 0; i < 129; i++) {
            ramp[i] = (byte) i;
        }
        Check.packs("129 others", 1, 0, ramp,
                Check.octets(127, java.util.Arrays.copyOf(ramp, 128), 0, 128));
    }

    private static void words() {
        Check.packs("none", 2, 0, new byte[0], BitRow.low().number(256, 9).number(257, 9).octets());
        Check.packs("the entry that the code makes", 2, 0, Check.octets("aaaa"),
                BitRow.low().number(256, 9).number('a', 9).number(258, 9).number('a', 9).number(257, 9).octets());
        Check.packs("an entry", 2, 0, Check.octets("ababab"),
                BitRow.low().number(256, 9).number('a', 9).number('b', 9).number(258, 9).number(258, 9)
                        .number(257, 9).octets());
        // 3838 codes of which no two that follow one another come again
        byte[] text = pairs(3838);
        BitRow row = BitRow.low().number(256, 9);
        for (int k = 0; k < 3838; k++) {
            row.number(text[k] & 255, k < 255 ? 9 : k < 767 ? 10 : k < 1791 ? 11 : 12);
        }
        Check.packs("a CLEAR where the text ends", 2, 0, text,
                row.number(256, 12).number(257, 9).octets());
        byte[] shorter = java.util.Arrays.copyOf(text, 3837);
        row = BitRow.low().number(256, 9);
        for (int k = 0; k < 3837; k++) {
            row.number(text[k] & 255, k < 255 ? 9 : k < 767 ? 10 : k < 1791 ? 11 : 12);
        }
        Check.packs("no CLEAR behind 3837", 2, 0, shorter, row.number(257, 12).octets());
    }

    /** No pair of octets stands in it twice: by WORDS each octet is a code. */
    private static byte[] pairs(int many) {
        byte[] all = new byte[many];
        int n = 0;
        for (int step = 1; n < many; step += 2) {
            int v = 0;
            for (int i = 0; i < 256 && n < many; i++) {
                all[n] = (byte) v;
                n++;
                v = v + step & 255;
            }
        }
        return all;
    }

    private static void blocks() {
        Check.packs("STORED", 3, 0, Check.octets("abc"), Check.octets(1, 3, 0, 252, 255, "abc"));
        Check.packs("STORED, none", 3, 0, new byte[0], Check.octets(1, 0, 0, 255, 255));
        byte[] thousand = Check.times(5, 1000);
        Check.packs("STORED, 1000", 3, 0, thousand, Check.octets(1, 232, 3, 23, 252, thousand));
        Check.packs("STORED, 1001", 3, 0, Check.times(5, 1001),
                Check.octets(0, 232, 3, 23, 252, thousand, 1, 1, 0, 254, 255, 5));
        Check.packs("FIXED", 3, 1, Check.octets("abc"), Check.hex("4b4c4a0600"));
        Check.packs("FIXED, none", 3, 1, new byte[0], Check.hex("0300"));
        Check.packs("FIXED, 258 and 285", 3, 1, Check.times('a', 259),
                BitRow.low().number(1, 1).number(1, 2).code("10010001").code("11000101").code("00000")
                        .code("0000000").octets());
        // one symbol each in the first code and the other
        BitRow own = BitRow.low().number(1, 1).number(2, 2);
        own.number(0, 5).number(0, 5).number(14, 4);
        int[] steps = {0, 0, 1, 2, 0, 0, 0, 0, 0, 0, 0, 0, 0, 0, 0, 0, 0, 2};
        for (int step : steps) {
            own.number(step, 3);
        }
        own.code("0").number(127, 7).code("0").number(107, 7).code("11").code("10").code("0");
        Check.packs("OWN, none", 3, 2, new byte[0], own.octets());
        Check.packs("OWN, none, level 4", 3, 4, new byte[0], own.octets());
    }

    private static void rimAndMember() {
        int[] flags = {1, 94, 156, 218, 218};
        for (int level = 0; level <= 4; level++) {
            PackingHouse x = Check.house(Check.octets("abcabcabc"));
            x.pack(3, level);
            byte[] body = Check.stream(x, 1);
            x.pack(4, level);
            Check.due("RIM " + level, Check.stream(x, 2),
                    Check.octets(120, flags[level], body, Check.hex("113d0373")));
            x.pack(5, level);
            Check.due("MEMBER " + level, Check.stream(x, 3), Check.octets(31, 139, 8, 0, 0, 0, 0, 0, 0, 255, body,
                    Check.low(x.sum(1), 4), 9, 0, 0, 0));
        }
    }

    private static void fastAndFrame() {
        Check.packs("FAST, none", 6, 0, new byte[0], Check.octets(0));
        Check.packs("FAST, literals", 6, 0, Check.octets("abc"), Check.octets(48, "abc"));
        Check.packs("FAST, 15 literals", 6, 0, Check.octets("abcdefghijklmno"),
                Check.octets(240, 0, "abcdefghijklmno"));
        // a match may not begin less than 12 before the end, nor end less than 5 before it
        Check.packs("FAST, 12 alike", 6, 0, Check.times('a', 12), Check.octets(192, Check.times('a', 12)));
        Check.packs("FAST, 13 alike", 6, 0, Check.times('a', 13), Check.octets(19, "a", 1, 0, 80, "aaaaa"));
        Check.packs("FAST, a longer match", 6, 0, Check.times('a', 300),
                Check.octets(31, "a", 1, 0, 255, 20, 80, "aaaaa"));
        Check.packs("FAST, 255 more", 6, 0, Check.times('a', 280),
                Check.octets(31, "a", 1, 0, 255, 0, 80, "aaaaa"));
        byte[] others = pairs(270);
        Check.packs("FAST, 255 more literals", 6, 0, others, Check.octets(240, 255, 0, others));
        Check.packs("FRAME, none", 7, 0, new byte[0], Check.hex("04224d186440a700000000055dcc02"));
        Check.packs("FRAME, as it is", 7, 0, Check.octets("abc"),
                Check.octets(Check.hex("04224d186440a7"), 3, 0, 0, 128, "abc", 0, 0, 0, 0, Check.low(0x32D153FFL, 4)));
        PackingHouse x = Check.house(Check.times('a', 13));
        x.pack(7, 0);
        Check.due("FRAME, FAST", Check.stream(x, 1), Check.octets(Check.hex("04224d186440a7"), 10, 0, 0, 0,
                19, "a", 1, 0, 80, "aaaaa", 0, 0, 0, 0, Check.low(x.sum(3), 4)));
    }

    private static void copies() {
        Check.packs("COPIES, none", 8, 0, new byte[0], Check.octets(0));
        Check.packs("COPIES, literals", 8, 0, Check.octets("abc"), Check.octets(3, 8, "abc"));
        Check.packs("a copy by 1", 8, 0, Check.times('a', 12), Check.octets(12, 0, "a", 1 | 7 << 2, 1));
        Check.packs("a copy by 2", 8, 0, Check.times('a', 13), Check.octets(13, 0, "a", 2 | 11 << 2, 1, 0));
        Check.packs("64 at most", 8, 0, Check.times('a', 66), Check.octets(66, 0, "a", 2 | 63 << 2, 1, 0, 0, "a"));
        byte[] text = pairs(300);
        Check.packs("60 literals", 8, 0, java.util.Arrays.copyOf(text, 60),
                Check.octets(60, 59 << 2, java.util.Arrays.copyOf(text, 60)));
        Check.packs("61 literals", 8, 0, java.util.Arrays.copyOf(text, 61),
                Check.octets(61, 60 << 2, 60, java.util.Arrays.copyOf(text, 61)));
        Check.packs("256 literals", 8, 0, java.util.Arrays.copyOf(text, 256),
                Check.octets(128, 2, 60 << 2, 255, java.util.Arrays.copyOf(text, 256)));
        Check.packs("257 literals", 8, 0, java.util.Arrays.copyOf(text, 257),
                Check.octets(129, 2, 61 << 2, 0, 1, java.util.Arrays.copyOf(text, 257)));
        byte[] far = Check.octets("wxyz", java.util.Arrays.copyOfRange(pairs(4000), 300, 300 + 2044), "wxyz");
        PackingHouse x = Check.house(far);
        x.pack(8, 0);
        byte[] got = Check.stream(x, 1);
        Check.due("distance 2048 by 2", java.util.Arrays.copyOfRange(got, got.length - 3, got.length),
                Check.octets(2 | 3 << 2, 0, 8));
    }

    private static void sortedAndOdds() {
        Check.packs("SORTED, none", 9, 0, new byte[0], Check.hex("425a683117724538509000000000"));
        // one octet: T is it; signs 97; symbols 0 (one front sign) and 2 (end) of three
        BitRow row = BitRow.high().number(0x425A6831L, 32).number(0x314159265359L, 48);
        int turned = (int) Check.house(Check.octets("a")).sum(2);
        row.number(turned, 32).number(0, 1).number(0, 24).number(0x8000 >> 6, 16).number(0x8000 >> 1, 16);
        row.number(2, 3).number(1, 15).number(0, 1);
        for (int code = 0; code < 2; code++) {
            // counts 1, 1, 1: the first two are joined first, so that lengths are 2, 2, 1
            row.number(2, 5).code("0").code("0").code("110");
        }
        row.code("10").code("0");
        row.number(0x177245385090L, 48).number(turned, 32);
        Check.packs("SORTED, one", 9, 0, Check.octets("a"), row.octets());
        Check.packs("ODDS, none", 10, 0, new byte[0], Check.octets(0, 0, 0, 0, 0, 0));
        // eight bits of 0, with odds of their own each: the RANGE is halved, LOW stays 0
        Check.packs("ODDS, a 0", 10, 0, Check.octets(0), Check.octets(0, 1, 0, 0, 0, 0, 0));
    }

    private static void tokens() {
        PackingHouse x = Check.house(Check.octets("abcdeabcdefgabcdefg"));
        Check.due("pack", x.pack(3, 1), 1);
        int[][] want = {{1, 0, 0}, {1, 0, 1}, {1, 0, 2}, {1, 0, 3}, {1, 0, 4}, {5, 5, 5}, {1, 0, 10}, {1, 0, 11}, {7, 7, 12}};
        Check.due("many", x.token(-1, 0), want.length);
        Check.due("many, any what", x.token(-1, 99), want.length);
        for (int i = 0; i < want.length; i++) {
            for (int what = 0; what < 3; what++) {
                Check.due("token " + i + ", " + what, x.token(i, what), want[i][what]);
            }
        }
        Check.due("none", x.token(9, 0), -1);
        Check.due("none, nor what", x.token(9, 3), -1);
        Check.due("none", x.token(-2, 0), -1);
        Check.due("no such what", x.token(0, 3), -2);
        Check.due("no such what", x.token(0, -1), -2);
        x.pack(3, 5);
        Check.due("they stay when refused", x.token(-1, 0), 9);
        x.open(3);
        Check.due("they stay in open()", x.token(-1, 0), 9);
        int s = Check.streamOf(x, Check.times('a', 50));
        Check.due("none after RUNS", x.token(-1, 0), 0);
        x.name('n', 1);
        x.entry(s, 0, 0);
        x.load(s);
        x.pack(6, 0);
        int many = x.token(-1, 0);
        x.write(13, 2);
        Check.due("they stay in write()", x.token(-1, 0), many);
        x.pack(3, 0);
        Check.due("none after level 0", x.token(-1, 0), 0);
        x.pack(8, 0);
        Check.due("8 has some", x.token(-1, 0), 2);
        x.pack(9, 0);
        Check.due("9 has none", x.token(-1, 0), 0);
        x.pack(7, 0);
        Check.due("7 has some", x.token(-1, 0), 7);
    }

    private static void parses() {
        // the longest one, of these the least distance
        expectTokens("least distance", 1, "abcXabcYabcd", 1, 1, 1, 1, 3, 1, 3, 1);
        Check.due("it is 4", tokenWhat("abcXabcYabcd", 1, 6, 1), 4);
        // lazy: a literal where the next place has a longer one
        expectTokens("greedy", 1, "abcbcdefabcdef", 1, 1, 1, 1, 1, 1, 1, 1, 3, 3);
        expectTokens("lazy", 2, "abcbcdefabcdef", 1, 1, 1, 1, 1, 1, 1, 1, 1, 5);
        // fewest bits: three literals of 8 bits are dearer than a match of 7 + 5 + 0 bits
        expectTokens("fewest", 3, "aaaaaaa", 1, 6);
        expectTokens("fewest, a literal where one is possible", 3, "abcabc", 1, 1, 1, 3);
        // no match goes beyond a block of 2000
        byte[] text = Check.times('q', 4000);
        PackingHouse x = Check.house(text);
        x.pack(3, 4);
        int place = 0;
        for (int i = 0; i < x.token(-1, 0); i++) {
            Check.holds("within a block", place / 2000 == (place + x.token(i, 0) - 1) / 2000);
            Check.due("place", x.token(i, 2), place);
            place += x.token(i, 0);
        }
        Check.due("all of it", place, 4000);
        // cut to 2 it is none
        x = Check.house(Check.octets("vwxyz", Check.times('q', 1992), "x", "vwxyz"));
        x.pack(3, 4);
        int many = x.token(-1, 0);
        Check.due("two literals before the end of the block", x.token(many - 3, 0), 1);
        Check.due("and the rest behind it", x.token(many - 1, 0), 3);
        Check.due("with its distance", x.token(many - 1, 1), 1998);
    }

    private static void expectTokens(String what, int level, String text, int... sizes) {
        PackingHouse x = Check.house(Check.octets(text));
        x.pack(3, level);
        StringBuilder got = new StringBuilder();
        StringBuilder want = new StringBuilder();
        for (int i = 0; i < x.token(-1, 0); i++) {
            got.append(x.token(i, 0)).append(' ');
        }
        for (int size : sizes) {
            want.append(size).append(' ');
        }
        Check.due(what, got.toString(), want.toString());
    }

    private static int tokenWhat(String text, int level, int i, int what) {
        PackingHouse x = Check.house(Check.octets(text));
        x.pack(3, level);
        return x.token(i, what);
    }

    private static void bits() {
        PackingHouse x = Check.house(Check.octets("abc"));
        x.pack(3, 1);
        Check.due("3 and 3 * 8 and 7", x.bits(), 34);
        x.pack(4, 1);
        Check.due("of RIM's BLOCKS alone", x.bits(), 34);
        x.pack(5, 0);
        Check.due("STORED", x.bits(), 64);
        x.pack(11, 0);
        Check.due("it stays when refused", x.bits(), 64);
        x.pack(6, 0);
        Check.due("0 after others", x.bits(), 0);
        x.cut(0);
        x.pack(3, 2);
        Check.due("OWN, none", x.bits(), 92);
    }

    private static void foreignOpeners() throws Exception {
        for (byte[] text : Check.someTexts()) {
            for (int level = 0; level <= 4; level++) {
                PackingHouse x = Check.house(text);
                x.pack(3, level);
                Check.due("raw, level " + level, inflated(Check.stream(x, 1), true, text.length), text);
                x.pack(4, level);
                Check.due("zlib, level " + level, inflated(Check.stream(x, 2), false, text.length), text);
                x.pack(5, level);
                byte[] member = Check.stream(x, 3);
                Check.due("gzip, level " + level,
                        new GZIPInputStream(new ByteArrayInputStream(member)).readAllBytes(), text);
            }
        }
    }

    private static byte[] inflated(byte[] packed, boolean raw, int size) throws Exception {
        Inflater inflater = new Inflater(raw);
        inflater.setInput(packed);
        byte[] all = new byte[size + 10];
        int n = inflater.inflate(all);
        Check.holds("the end", inflater.finished() && inflater.getRemaining() == 0);
        inflater.end();
        return java.util.Arrays.copyOf(all, n);
    }

    private static void everyKindComesBack() {
        for (byte[] text : Check.someTexts()) {
            for (int kind = 1; kind <= 10; kind++) {
                for (int level = 0; level <= (kind >= 3 && kind <= 5 ? 4 : 0); level++) {
                    PackingHouse x = Check.house(text);
                    Check.due("pack", x.pack(kind, level), 1);
                    if (x.load(1) >= 0) {
                        Check.due("open", x.open(kind), 2);
                        Check.due(kind + ", " + level, Check.stream(x, 2), text);
                    }
                }
            }
        }
    }
}

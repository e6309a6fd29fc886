import java.util.ArrayList;
import java.util.Arrays;
import java.util.List;

/** What stands at the beginning of an OWN block, read bit by bit, without a look at its RULES. */
final class OwnHead {
    private static final int[] ORDER = {16, 17, 18, 0, 8, 7, 9, 6, 10, 5, 11, 4, 12, 3, 13, 2, 14, 1, 15};

    final boolean isLast;
    final int type;
    final int firstTold;
    final int otherTold;
    final int stepsTold;
    /** The lengths of the third code. */
    final int[] third = new int[19];
    /** The symbols by which lengths are told, each with the number in its bits: "18+127". */
    final List<String> steps = new ArrayList<>();
    /** How often each symbol of the third code comes. */
    final int[] stepCounts = new int[19];
    final int[] first;
    final int[] other;
    /** How many bits the head has. */
    final int size;
    private final byte[] octets;
    private int next;

    OwnHead(byte[] octets, int bit) {
        this.octets = octets;
        next = bit;
        isLast = number(1) == 1;
        type = number(2);
        firstTold = number(5) + 257;
        otherTold = number(5) + 1;
        stepsTold = number(4) + 4;
        for (int i = 0; i < stepsTold; i++) {
            third[ORDER[i]] = number(3);
        }
        String[] codes = Forms.codes(third);
        int[] lengths = new int[firstTold + otherTold];
        int n = 0;
        while (n < lengths.length) {
            int s = symbol(codes);
            int more = s < 16 ? 0 : number(s == 16 ? 2 : s == 17 ? 3 : 7);
            steps.add(s < 16 ? "" + s : s + "+" + more);
            stepCounts[s]++;
            int times = s < 16 ? 1 : more + (s == 18 ? 11 : 3);
            Arrays.fill(lengths, n, n + times, s < 16 ? s : s == 16 ? lengths[n - 1] : 0);
            n += times;
        }
        first = Arrays.copyOf(lengths, firstTold);
        other = Arrays.copyOfRange(lengths, firstTold, lengths.length);
        size = next - bit;
    }

    private int number(int n) {
        int v = 0;
        for (int i = 0; i < n; i++) {
            v |= (octets[next / 8] >> next % 8 & 1) << i;
            next++;
        }
        return v;
    }

    private int symbol(String[] codes) {
        String read = "";
        while (true) {
            read += number(1);
            int s = Arrays.asList(codes).indexOf(read);
            if (s >= 0) {
                return s;
            }
        }
    }
}

import java.util.Arrays;

/** How the document makes the root of 64 leaves. */
final class Folding {
    static int rootOf(long[] leaves) {
        long[] inner = new long[4];
        for (int n = 0; n < 4; n++) {
            inner[n] = fold(Arrays.copyOfRange(leaves, 16 * n, 16 * n + 16));
        }
        return fold(inner);
    }

    private static int fold(long[] parts) {
        int h = 7;
        for (long part : parts) {
            h = 31 * h + (int) part;
            h = h ^ (h >>> 11);
        }
        return h;
    }

    private Folding() {
    }
}

import java.util.Arrays;

/** Rows of ints, for TEXTS. */
final class Rows {
    private Rows() {
    }

    static int[] row(int... ints) {
        return ints;
    }

    static int[] join(int[]... parts) {
        int many = 0;
        for (int[] part : parts) {
            many += part.length;
        }
        int[] all = new int[many];
        int at = 0;
        for (int[] part : parts) {
            System.arraycopy(part, 0, all, at, part.length);
            at += part.length;
        }
        return all;
    }

    static int[] times(int n, int... ints) {
        int[][] parts = new int[n][];
        Arrays.fill(parts, ints);
        return join(parts);
    }
}

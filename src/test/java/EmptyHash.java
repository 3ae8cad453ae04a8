/** The hash of a column without values, written out as the document lists it. */
final class EmptyHash {

    private EmptyHash() {
    }

    static long of(int sample, int closing, int allowed) {
        long hash = 3631;
        long[] list = {0, 0, 0, 0, 0, 0, 0, 0, 0, sample, closing, allowed,
            0, 0, 0, -1, 0, 0, 0, -1, 0, 0, 0, -1, 0, 0, 0,
            0x3FF0000000000000L, 0, 0, 0};
        for (long number : list) {
            hash = 31 * hash + number;
        }
        return hash;
    }
}
